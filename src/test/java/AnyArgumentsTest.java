import java.lang.reflect.Method;
import java.util.ArrayList;
import java.util.Comparator;
import java.util.List;
import java.util.Random;

/** No call ever throws, whatever its arguments are, and the dearest calls on the largest lands come to an end soon. */
public final class AnyArgumentsTest {
  private static final int[] ODD = {-1, -2, 0, 1, 2, 3, 4, 5, 8, 9, 12, 13, 20, 21, 63, 64, 99, 100, 143, 144, 145, 699, 700, 701,
    999, 1000, 10000, Integer.MAX_VALUE, Integer.MAX_VALUE - 1, Integer.MIN_VALUE, Integer.MIN_VALUE + 1, 0x20202020, 0x3b3b3b3b};

  public static void main(String[] args) throws Exception {
    List<Method> methods = new ArrayList<>();
    for (Method method : HillSketch.class.getDeclaredMethods()) {
      if (java.lang.reflect.Modifier.isPublic(method.getModifiers())) methods.add(method);
    }
    methods.sort(Comparator.comparing(Method::getName));
    for (int seed = 0; seed < 120; seed++) anyCalls(methods, new Random(seed));
    for (Method method : methods) {
      for (int kind = 0; kind < 4; kind++) extremes(method, kind);
    }
    for (int kind : new int[] {1, 2, 5, 100, 1000}) dearCalls(kind);
    Check.finish("AnyArgumentsTest");
  }

  /** A new object, one with lands alone, one with sketches alone, one with all that there may be. */
  private static HillSketch make(int kind) {
    HillSketch x = new HillSketch();
    if (kind == 1 || kind == 3) {
      Check.land(x, "size 2 2;heights 0 1 2 3;lake 0;tower 3 0 99;");
      Check.land(x, "size 3 2;heights 0 1 0 3 0 5;haze 1;");
    }
    if (kind > 1) {
      for (int k = 0; k < 4; k++) Check.sketch(x, k % 2 == 0 ? "hump 1 tower;half;" : "hump 9;hump 1 lake;true;turned;half;");
    }
    if (kind == 3) {
      for (int k = 0; k < 3; k++) x.image(k);
      Check.land(x, "eye 10;");
      for (int k = 0; k < 35; k++) x.feed(-1, -1, -1, -1, -1);
    }
    return x;
  }

  /** All rows of the least, the greatest and a few numbers between them. */
  private static void extremes(Method method, int kind) throws Exception {
    int[] few = method.getParameterCount() > 5 ? new int[] {Integer.MIN_VALUE, 0, Integer.MAX_VALUE}
      : new int[] {Integer.MIN_VALUE, -1, 0, 1, Integer.MAX_VALUE};
    int rows = 1;
    for (int i = 0; i < method.getParameterCount(); i++) rows *= few.length;
    HillSketch x = make(kind);
    for (int row = 0; row < rows; row++) {
      if (row % 300 == 299) x = make(kind);
      Object[] values = new Object[method.getParameterCount()];
      for (int i = 0, rest = row; i < values.length; i++, rest /= few.length) {
        int number = few[rest % few.length];
        values[i] = method.getParameterTypes()[i] == boolean.class ? (Object) (number > 0) : (Object) number;
      }
      try {
        method.invoke(x, values);
      } catch (java.lang.reflect.InvocationTargetException thrown) {
        Check.due(method.getName() + java.util.Arrays.toString(values) + " threw " + thrown.getCause(), 1, 0);
      }
    }
  }

  private static void anyCalls(List<Method> methods, Random random) throws Exception {
    HillSketch x = new HillSketch();
    if (random.nextInt(8) > 0) largeLand(x, 1 + random.nextInt(1000), random);
    if (random.nextInt(3) > 0) largeLand(x, 1 + random.nextInt(10), random);
    Check.sketch(x, "hump 1;hump 5 tower;hump 3 lake;half;");
    Check.sketch(x, "hump 3 bare;hump 9;true;give 60;turned;half;");
    for (int k = 0; k < 380; k++) {
      Method method = methods.get(random.nextInt(methods.size()));
      Object[] values = new Object[method.getParameterCount()];
      for (int i = 0; i < values.length; i++) {
        int way = random.nextInt(3);
        int number = way == 0 ? ODD[random.nextInt(ODD.length)] : way == 1 ? random.nextInt(4) : random.nextInt(144);
        values[i] = method.getParameterTypes()[i] == boolean.class ? (Object) random.nextBoolean() : (Object) number;
      }
      try {
        method.invoke(x, values);
      } catch (java.lang.reflect.InvocationTargetException thrown) {
        Check.due(method.getName() + java.util.Arrays.toString(values) + " threw " + thrown.getCause(), 1, 0);
      }
    }
  }

  private static int largeLand(HillSketch x, int range, Random random) {
    StringBuilder s = new StringBuilder("size 12 12;heights");
    for (int p = 0; p < 144; p++) s.append(' ').append(random.nextInt(range));
    s.append(";lake 70;tower 66 5 9;tower 30 8 50;bend ").append(random.nextInt(20)).append(';');
    return Check.land(x, s.toString());
  }

  private static void dearCalls(int range) {
    long began = System.nanoTime();
    HillSketch x = new HillSketch();
    largeLand(x, range, new Random(range));
    Check.sketch(x, "hump 1;hump 99;hump 1 tower;hump 3;hump 98;hump 2;hump 99 lake;hump 1 bare;half;");
    Check.sketch(x, "hump 1;hump 99;hump 1;hump 3;hump 98 tower;hump 2;hump 99;hump 1;hump 5;hump 6;hump 7;hump 8;half;true;");
    int widest = 0;
    for (int p = 0; p < 144; p++) if (x.hump(0, p, -1) > x.hump(0, widest, -1)) widest = p;
    for (int k = 0; k < 10; k++) {
      x.mend(0, k, 7 * k);
      x.known(0, widest);
      x.guards(0, -1);
      x.doubt(0, 0);
      x.nearest(0, 1, true);
      x.lacks(0, k % 2, widest, (widest + k + 1) % 144);
      x.found(0, widest, 0, 9, k, 9, 8, true);
      x.shift(0, 70 + k, 500);
      x.pairs(0, 0, 1, 999);
      x.since(0, 0, true);
    }
    long seconds = (System.nanoTime() - began) / 1000000000L;
    Check.due("dear calls on heights below " + range + " took " + seconds + " s, so they are too slow", seconds > 60, false);
  }
}

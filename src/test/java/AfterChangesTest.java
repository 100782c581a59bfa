import java.util.ArrayList;
import java.util.List;

/**
 * What is answered is of the LANDS and SKETCHES as they are now: after a text in the place of one, a mended HEIGHT and again()
 * all answers are those of a new object, and no call that asks leaves anything behind for the next one.
 */
public final class AfterChangesTest {
  private interface Call {
    long on(HillSketch x, int land);
  }

  private static final List<String> NAMES = new ArrayList<>();
  private static final List<Call> CALLS = new ArrayList<>();
  private static final String[] LANDS = {
    "size 12 12;eye 9;heights 5 3 8 2 7;lake 66;lake 5;tower 2 0 50;tower 1 40 99;",
    "size 5 4;haze 5;heights 3 1 4 1 5 9 2 6 5 3 5 8 9 7 9 3 2 3 8 4;lake 6;tower 8 3 9;",
    "size 4 4;heights 3 1 4 1 5 9 2 6 5 3 5 8 9 7 9 3;lake 10;tower 5 0 99;",
    "size 4 4;haze 1;eye 2;bend 40;heights 3 1 4 1 5 9 2 6 5 3 5 8 9 7 9 3;",
    "size 6 3;bend 99;heights 0 0 900 0 0 800 0 0 0 700;lake 0;",
    "size 12 2;heights 3 1 4 1 5 9 2 6 5 3 5 8 9 7 9 3 2 3 8 4 6 2 6 4;"};
  private static final String[] SKETCHES = {"hump 1;hump 2 lake;half;", "hump 9 tower;half;years 5 60;", "hump 8;hump 4;true;give 60;half;turned;"};

  public static void main(String[] args) {
    calls();
    for (int a = 0; a < LANDS.length; a++) {
      for (int b = 0; b < LANDS.length; b++) {
        for (int at = 0; at < 2; at++) {
          inThePlace(a, b, at);
          again(a, b, at);
        }
      }
      mended(a);
      otherSketches(a);
      onePerOther(a);
    }
    Check.finish("AfterChangesTest");
  }

  private static void call(String name, Call call) {
    NAMES.add(name);
    CALLS.add(call);
  }

  /** All that can be asked, of PLACES that all of the lands have, and what is drawn in the place of the fourth sketch. */
  private static void calls() {
    call("rise", (x, l) -> x.rise(l, 6, 9));
    for (int p : new int[] {0, 5, 10}) {
      call("seen " + p, (x, l) -> x.seen(l, p, 6));
      call("sees " + p, (x, l) -> x.sees(l, p));
      call("rays " + p, (x, l) -> x.ray(l, p, -1));
      call("ray " + p, (x, l) -> x.ray(l, p, 1));
      call("humps " + p, (x, l) -> x.hump(l, p, -1));
      call("hump " + p, (x, l) -> x.hump(l, p, 0));
      call("steeper " + p, (x, l) -> x.steeper(l, p, 0, 1));
      call("known " + p, (x, l) -> x.known(l, p));
      call("rivals " + p, (x, l) -> x.rivals(l, p, 0, 1));
      call("found " + p, (x, l) -> x.found(l, p, 0, 1, 3, 20, 8, true));
      call("proud " + p, (x, l) -> x.proud(l, p));
      call("sneak " + p, (x, l) -> x.sneak(l, 3, 15, p));
      call("draw " + p, (x, l) -> drawn(x, x.draw(l, p, 0, 1, 3)));
      call("scrawl " + p, (x, l) -> drawn(x, x.scrawl(l, p, 0, 1, 9, 20, 3)));
      call("differs " + p, (x, l) -> x.differs(l, 1 - l, p));
      for (int s = 0; s < 3; s++) {
        int sketch = s;
        call("first " + s + " " + p, (x, l) -> x.first(l, sketch, p, 0, -1));
        call("fits " + s + " " + p, (x, l) -> x.fits(l, sketch, p, 45));
        call("wrong " + s + " " + p, (x, l) -> x.wrong(l, sketch, p, 0));
        call("stretch " + s + " " + p, (x, l) -> x.stretch(l, sketch, p, 0, true, false));
        call("lacks " + s + " " + p, (x, l) -> x.lacks(l, sketch, p, 6));
      }
    }
    for (int s = 0; s < 3; s++) {
      int sketch = s;
      call("where " + s, (x, l) -> x.where(l, sketch, -1, -1));
      call("where " + s, (x, l) -> x.where(l, sketch, 7, 0));
      call("hills " + s, (x, l) -> x.hills(l, sketch, 0, -1));
      call("sure " + s, (x, l) -> x.sure(l, sketch, 0) ? 1 : 0);
      call("bars " + s, (x, l) -> x.bars(l, sketch, 0));
      call("doubt " + s, (x, l) -> x.doubt(l, sketch));
      call("since " + s, (x, l) -> x.since(l, sketch, false));
      call("until " + s, (x, l) -> x.since(l, sketch, true));
      call("pairs " + s, (x, l) -> x.pairs(l, sketch, 0, 4));
      call("way " + s, (x, l) -> x.way(l, sketch, 0, 3));
      call("nearest " + s, (x, l) -> x.nearest(l, sketch, false));
      call("least wrong " + s, (x, l) -> x.nearest(l, sketch, true));
    }
    call("most", (x, l) -> x.most(l));
    call("shift", (x, l) -> x.shift(l, 6, 0));
    call("shift", (x, l) -> x.shift(l, 6, 50));
    call("hidden", (x, l) -> x.hidden(l));
    call("guards", (x, l) -> x.guards(l, -1));
    call("guard 0", (x, l) -> x.guards(l, 0));
    call("guard 1", (x, l) -> x.guards(l, 1));
    call("peaks", (x, l) -> x.peaks(l));
  }

  /** What a drawn sketch is told as, in one number. */
  private static long drawn(HillSketch x, int at) {
    long told = at;
    for (int what = 0; what < 7; what++) told = told * 101 + x.sketch(at, what);
    return told * 101 + x.sketch(at, 10);
  }

  /** An object with two lands and four sketches. */
  private static HillSketch with(String one, String two) {
    HillSketch x = Check.on(one);
    Check.land(x, two);
    for (String s : SKETCHES) Check.sketch(x, s);
    Check.sketch(x, "hump 5;");
    return x;
  }

  private static long[] all(HillSketch x, int land) {
    long[] answers = new long[CALLS.size()];
    for (int i = 0; i < answers.length; i++) answers[i] = CALLS.get(i).on(x, land);
    return answers;
  }

  private static void same(String what, HillSketch x, HillSketch fresh, int land) {
    long[] got = all(x, land);
    long[] want = all(fresh, land);
    for (int i = 0; i < got.length; i++) Check.due(NAMES.get(i) + " of LAND " + land + ", " + what, got[i], want[i]);
  }

  private static HillSketch two(int at, String it, String other) { return at == 0 ? with(it, other) : with(other, it); }

  private static void inThePlace(int a, int b, int at) {
    HillSketch x = two(at, LANDS[a], LANDS[2]);
    all(x, at);
    Check.feed(x, LANDS[b]);
    Check.due("4: in the place of " + at, x.text(0, at), at);
    same("land " + b + " in the place of land " + a, x, two(at, LANDS[b], LANDS[2]), at);
  }

  private static void again(int a, int b, int at) {
    HillSketch x = two(at, LANDS[b], LANDS[2]);
    x.image(at);
    Check.feed(x, LANDS[a]);
    x.text(0, at);
    all(x, at);
    Check.due("45: again", x.again(at), true);
    same("land " + b + " again after land " + a, x, two(at, LANDS[b], LANDS[2]), at);
  }

  private static void mended(int a) {
    for (int at = 0; at < 2; at++) {
      HillSketch x = two(at, LANDS[a], LANDS[2]);
      HillSketch fresh = two(at, LANDS[a], LANDS[2]);
      all(x, at);
      for (int p : new int[] {6, 0, 9}) {
        int height = x.height(at, p) > 5 ? 1 : 99;
        Check.due("8: mend", x.mend(at, p, height), true);
        Check.due("8: mend", fresh.mend(at, p, height), true);
      }
      same("three HEIGHTS of land " + a + " mended", x, fresh, at);
    }
  }

  /** A sketch in the place of one that had been asked about. */
  private static void otherSketches(int a) {
    HillSketch x = two(0, LANDS[a], LANDS[2]);
    HillSketch fresh = two(0, LANDS[a], LANDS[2]);
    for (int k = 0; k < 3; k++) {
      Check.feed(fresh, SKETCHES[k]);
      Check.due("4: a sketch in the place of one", fresh.text(1, 2 - k), 2 - k);
    }
    all(x, 0);
    for (int k = 0; k < 3; k++) {
      Check.feed(x, SKETCHES[k]);
      Check.due("4: a sketch in the place of one", x.text(1, 2 - k), 2 - k);
    }
    same("other sketches on land " + a, x, fresh, 0);
  }

  /** One call alone, then another one: the latter answers what it answers of a new object. */
  private static void onePerOther(int a) {
    if (a == 0) return;
    long[] alone = new long[CALLS.size()];
    for (int k = 0; k < alone.length; k++) alone[k] = CALLS.get(k).on(two(0, LANDS[a], LANDS[2]), 0);
    for (int i = 0; i < alone.length; i++) {
      HillSketch x = two(0, LANDS[a], LANDS[2]);
      for (int k = 0; k < alone.length; k++) {
        if (k % 30 == 29) x = two(0, LANDS[a], LANDS[2]);
        CALLS.get(i).on(x, (i + k) % 2);
        Check.due(NAMES.get(k) + " after " + NAMES.get(i) + " on land " + a, CALLS.get(k).on(x, 0), alone[k]);
      }
    }
  }
}

import java.io.IOException;
import java.lang.reflect.Constructor;
import java.lang.reflect.Field;
import java.lang.reflect.Method;
import java.lang.reflect.Modifier;
import java.nio.file.Files;
import java.nio.file.Path;
import java.util.ArrayList;
import java.util.List;
import java.util.TreeSet;
import java.util.regex.Matcher;
import java.util.regex.Pattern;

/** The public face is that of the document, and the source keeps to those rules of LANGUAGE.md that can be seen so. */
public final class FaceAndRulesTest {
  private static final Path DOCUMENT = Path.of("../shared/DOC.md");
  private static final Path SOURCE = Path.of("src/main/java/HillSketch.java");

  public static void main(String[] args) throws IOException {
    face();
    classes();
    words();
    methods();
    Check.finish("FaceAndRulesTest");
  }

  private static void flaw(String what) { Check.due(what, false, true); }

  private static void face() throws IOException {
    TreeSet<String> wanted = new TreeSet<>();
    Matcher m = Pattern.compile("public (int|boolean) (\\w+)\\(([^)]*)\\);").matcher(Files.readString(DOCUMENT));
    while (m.find()) {
      String types = m.group(3).replaceAll("(int|boolean) \\w+", "$1").replace(" ", "");
      wanted.add(m.group(1) + " " + m.group(2) + "(" + types + ")");
    }
    Check.due("methods in the document", wanted.size(), 44);
    TreeSet<String> had = new TreeSet<>();
    TreeSet<String> names = new TreeSet<>();
    for (Method method : HillSketch.class.getDeclaredMethods()) {
      if (!Modifier.isPublic(method.getModifiers())) continue;
      List<String> types = new ArrayList<>();
      for (Class<?> type : method.getParameterTypes()) types.add(type.getName());
      had.add(method.getReturnType().getName() + " " + method.getName() + "(" + String.join(",", types) + ")");
      names.add(method.getName());
    }
    if (!wanted.equals(had)) flaw("the face " + had + " is not " + wanted);
    for (Class<?> inside : HillSketch.class.getDeclaredClasses()) {
      for (Method method : inside.getDeclaredMethods()) {
        if (names.contains(method.getName())) flaw("rule 1: " + inside + " has " + method.getName());
      }
    }
  }

  private static void classes() {
    int mods = HillSketch.class.getModifiers();
    Check.due("the class is public and final", Modifier.isPublic(mods) && Modifier.isFinal(mods), true);
    for (Constructor<?> made : HillSketch.class.getDeclaredConstructors()) {
      Check.due("the constructor", Modifier.isPublic(made.getModifiers()) && made.getParameterCount() == 0, true);
    }
    for (Field field : HillSketch.class.getDeclaredFields()) {
      boolean open = !Modifier.isPrivate(field.getModifiers());
      if (open && !field.getName().equals("NONE")) flaw("rule 1: " + field);
    }
    for (Method method : HillSketch.class.getDeclaredMethods()) {
      int m = method.getModifiers();
      if (!Modifier.isPublic(m) && !Modifier.isPrivate(m)) flaw("rule 1: " + method);
    }
    Class<?>[] inside = HillSketch.class.getDeclaredClasses();
    Check.due("rule 11: classes", inside.length < 12, true);
    for (Class<?> c : inside) {
      if (!Modifier.isStatic(c.getModifiers())) flaw("rule 2: " + c);
      int fields = 0;
      for (Field field : c.getDeclaredFields()) {
        boolean fixed = Modifier.isStatic(field.getModifiers());
        if (fixed && !Modifier.isFinal(field.getModifiers())) flaw("rule 5: " + field);
        fields += fixed ? 0 : 1;
      }
      if (fields > 20) flaw("rule 11: fields of " + c);
    }
  }

  /** The source without its comments. */
  private static String code() throws IOException {
    return Files.readString(SOURCE).replaceAll("(?s)/\\*.*?\\*/", "").replaceAll("//[^\n]*", "");
  }

  private static void words() throws IOException {
    String code = code();
    for (String word : new String[] {"throw", "throws", "try", "catch", "finally", "synchronized", "assert", "package",
      "protected", "native", "volatile", "transient", "double", "float", "Object", "hashCode", "toString", "HashMap",
      "Random", "Thread", "MAX_VALUE", "MIN_VALUE", "goto", "strictfp"}) {
      if (Pattern.compile("\\b" + word + "\\b").matcher(code).find()) flaw("the source has " + word);
    }
    for (String sign : new String[] {"->", "::", "\"\"\"", "Exact("}) {
      if (code.contains(sign)) flaw("the source has " + sign);
    }
    Matcher imports = Pattern.compile("import ([^;]*);").matcher(code);
    while (imports.find()) {
      if (!imports.group(1).equals("java.util.Arrays")) flaw("rule 4: " + imports.group());
    }
    Matcher calls = Pattern.compile("\\b(Arrays|System|Math|Integer|Long|String)\\.(\\w+)").matcher(code);
    List<String> known = List.of("Arrays.fill", "System.arraycopy", "Math.max", "Math.min", "Math.abs", "Integer.bitCount", "Long.bitCount");
    while (calls.find()) {
      if (!known.contains(calls.group())) flaw("rule 4: " + calls.group());
    }
    for (char sign : Files.readString(SOURCE).toCharArray()) {
      if (sign > 126) flaw("a sign above 126");
    }
  }

  private static void methods() throws IOException {
    String[] lines = Files.readString(SOURCE).split("\n");
    Pattern head = Pattern.compile("^( {4}| {8})(?:public |private |static |final )*[\\w\\[\\]]+ (\\w+)\\(([^)]*)\\) \\{$");
    for (int i = 0; i < lines.length; i++) {
      Matcher m = head.matcher(lines[i]);
      if (!m.matches()) continue;
      int end = i;
      while (end < lines.length && !lines[end].equals(m.group(1) + "}")) end++;
      if (end - i > 60) flaw("rule 11: " + m.group(2) + " has " + (end - i) + " lines");
      int parameters = m.group(3).isEmpty() ? 0 : m.group(3).split(",").length;
      // the document's own found() has eight
      if (parameters > 7 && !m.group(2).equals("found")) flaw("rule 11: " + m.group(2) + " has " + parameters + " parameters");
    }
  }
}

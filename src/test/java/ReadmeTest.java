import java.io.IOException;
import java.lang.reflect.InvocationTargetException;
import java.lang.reflect.Method;
import java.nio.file.Files;
import java.nio.file.Path;
import java.util.HashMap;
import java.util.Map;
import java.util.regex.Matcher;
import java.util.regex.Pattern;

/** Each call of the example in README.md answers what stands behind it there, and its texts are taken. */
public final class ReadmeTest {
  private static final Pattern EXAMPLE = Pattern.compile("```java\n(.*?)```", Pattern.DOTALL);
  private static final Pattern CALL = Pattern.compile("(?:int (\\w+) = )?x\\.(\\w+)\\(([^)]*)\\); +// (-?\\w+)(?::.*)?");

  public static void main(String[] args) throws IOException, ReflectiveOperationException {
    String readme = Files.readString(Path.of("README.md"));
    texts(readme);
    calls(readme);
    Check.finish("ReadmeTest");
  }

  private static void texts(String readme) {
    Matcher text = Pattern.compile("`((size|hump) [^`]*;)`").matcher(readme);
    int texts = 0;
    while (text.find()) {
      HillSketch x = new HillSketch();
      Check.feed(x, text.group(1));
      Check.due("'" + text.group(1) + "'", x.text(text.group(2).equals("size") ? 0 : 1, HillSketch.NONE), 0);
      texts++;
    }
    Check.due("README.md has texts", texts, 2);
  }

  private static void calls(String readme) throws ReflectiveOperationException {
    Matcher example = EXAMPLE.matcher(readme);
    Check.due("README.md has an example", example.find(), true);
    HillSketch x = new HillSketch();
    Map<String, Object> names = new HashMap<>();
    names.put("HillSketch.NONE", HillSketch.NONE);
    int calls = 0;
    for (String line : example.group(1).split("\n")) {
      if (line.startsWith("//") || line.equals("HillSketch x = new HillSketch();")) continue;
      Matcher call = CALL.matcher(line);
      if (!call.matches()) {
        Check.due("'" + line + "' is a call with its answer", false, true);
        continue;
      }
      Object answer = answer(x, call.group(2), call.group(3), names);
      if (call.group(1) != null) names.put(call.group(1), answer);
      Check.due("'" + line + "' (" + answer + ")", answer.toString().equals(call.group(4)), true);
      calls++;
    }
    Check.due("README.md has many calls", calls >= 15, true);
  }

  private static Object answer(HillSketch x, String name, String arguments, Map<String, Object> names)
      throws IllegalAccessException, InvocationTargetException {
    String[] told = arguments.split(", ");
    Object[] given = new Object[told.length];
    for (int i = 0; i < told.length; i++) {
      given[i] = names.containsKey(told[i]) ? names.get(told[i]) : (Object) Integer.valueOf(told[i]);
    }
    for (Method method : HillSketch.class.getMethods()) {
      if (method.getName().equals(name)) return method.invoke(x, given);
    }
    throw new IllegalStateException(name);
  }
}

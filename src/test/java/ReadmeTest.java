import java.io.IOException;
import java.lang.reflect.Method;
import java.lang.reflect.Modifier;
import java.nio.charset.StandardCharsets;
import java.nio.file.Files;
import java.nio.file.Path;
import java.util.regex.Matcher;
import java.util.regex.Pattern;

/** The example of README.md answers as it says there, and README.md names every call of the class. */
public final class ReadmeTest {
  private static final Pattern EXAMPLE = Pattern.compile("(?s)```java\n(.*?)```");
  private static final Pattern CALL = Pattern.compile("x\\.(\\w+)\\(([^)]*)\\); +// (-?\\d+)(:.*)?");
  private static final String BEGIN = "HotPipes x = new HotPipes();";
  private static int wrong = 0;

  private static void report(String what) {
    wrong++;
    System.out.println(what);
  }

  private static Method methodOf(String name) {
    for (Method m : HotPipes.class.getDeclaredMethods()) {
      if (Modifier.isPublic(m.getModifiers()) && m.getName().equals(name)) return m;
    }
    return null;
  }

  private static Object[] argumentsOf(String text) {
    if (text.isBlank()) return new Object[0];
    String[] parts = text.split(",\\s*");
    Object[] arguments = new Object[parts.length];
    for (int i = 0; i < parts.length; i++) {
      boolean isTruth = parts[i].equals("true") || parts[i].equals("false");
      arguments[i] = isTruth ? (Object) Boolean.valueOf(parts[i]) : (Object) Integer.valueOf(parts[i]);
    }
    return arguments;
  }

  private static void callOf(HotPipes x, String line) throws ReflectiveOperationException {
    Matcher call = CALL.matcher(line);
    Method m = call.matches() ? methodOf(call.group(1)) : null;
    if (m == null) {
      report("no call with its answer: " + line);
      return;
    }
    long got = ((Number) m.invoke(x, argumentsOf(call.group(2)))).longValue();
    if (got != Long.parseLong(call.group(3))) report(line.trim() + " -- answered " + got);
  }

  private static void example(String readme) throws ReflectiveOperationException {
    Matcher block = EXAMPLE.matcher(readme);
    HotPipes x = null;
    if (block.find()) {
      for (String line : block.group(1).split("\n")) {
        if (line.equals(BEGIN)) x = new HotPipes();
        else if (!line.isBlank() && !line.startsWith("//")) {
          if (x == null) report("a call ahead of the object: " + line);
          else callOf(x, line);
        }
      }
    }
    if (x == null) report("README.md has no example");
  }

  private static void names(String readme) {
    for (Method m : HotPipes.class.getDeclaredMethods()) {
      boolean isNamed = readme.contains("`" + m.getName() + "`");
      if (Modifier.isPublic(m.getModifiers()) && !isNamed) report("README.md does not name " + m.getName());
    }
  }

  public static void main(String[] args) throws IOException, ReflectiveOperationException {
    String readme = Files.readString(Path.of("README.md"), StandardCharsets.UTF_8);
    example(readme);
    names(readme);
    System.out.println(wrong == 0 ? "the example answers as README.md says" : wrong + " things are not as README.md says");
    if (wrong != 0) System.exit(1);
  }
}

import java.lang.reflect.Method;
import java.lang.reflect.Modifier;
import java.net.URL;
import java.net.URLClassLoader;
import java.nio.file.Files;
import java.nio.file.Path;
import java.util.ArrayList;
import java.util.List;
import java.util.regex.Matcher;
import java.util.regex.Pattern;
import javax.tools.JavaCompiler;
import javax.tools.ToolProvider;

/** The examples of README.md: they compile, each row answers what it says, and every call of the face is shown. */
public final class ReadmeTest extends Due {
  private static final String ANSWER = "BAD|STATE|FULL|NONE|-?\\d+";
  private static final Pattern ROW = Pattern.compile("((river|silty)\\.(\\w+)\\(.*\\)); +// (" + ANSWER + ")(:.*)?");
  private static int made = 0;

  public static void main(String[] args) throws Exception {
    List<String> helpers = new ArrayList<>(), rows = new ArrayList<>();
    for (String block : blocks(Files.readString(Path.of("README.md")))) (block.startsWith("static ") ? helpers : rows).add(block);
    must(!rows.isEmpty(), "README.md shows no example");
    StringBuilder body = new StringBuilder();
    for (String block : rows) for (String line : block.split("\n")) body.append(asked(line));
    everyCall(String.join("\n", rows));
    runs("public class Examples {\n" + String.join("\n", helpers)
        + "public static void main(String[] args) {\n" + body + "}\n}\n");
    finish();
  }

  /** Called by the examples for each row. */
  public static void answered(String row, long got, long want) {
    made++;
    must(got == want, "README.md says " + row + "; the class answers " + got);
  }

  private static List<String> blocks(String page) {
    List<String> found = new ArrayList<>();
    Matcher m = Pattern.compile("(?s)```java\n(.*?)```").matcher(page);
    while (m.find()) found.add(m.group(1));
    return found;
  }

  /** A row with its answer becomes a question; all else stays as it is, but a call without an answer is a fault. */
  private static String asked(String line) {
    Matcher m = ROW.matcher(line.trim());
    if (m.matches()) {
      return "ReadmeTest.answered(\"" + line.trim().replace("\\", "\\\\").replace("\"", "\\\"") + "\", " + m.group(1) + ", "
          + (m.group(4).matches("[A-Z]+") ? "RiverDiggers." : "") + m.group(4) + ");\n";
    }
    must(!line.matches("\\s*(river|silty)\\..*"), "README.md has no answer beside " + line);
    return line + "\n";
  }

  private static void everyCall(String examples) {
    for (Method m : RiverDiggers.class.getDeclaredMethods()) {
      if (!Modifier.isPublic(m.getModifiers())) continue;
      must(examples.matches("(?s).*\\b(river|silty)\\." + m.getName() + "\\(.*"), "README.md shows no " + m.getName());
    }
  }

  private static void runs(String source) throws Exception {
    Path out = Files.createTempDirectory("readme");
    Path file = out.resolve("Examples.java");
    Files.writeString(file, source);
    JavaCompiler compiler = ToolProvider.getSystemJavaCompiler();
    int code = compiler.run(null, null, null, "-cp", System.getProperty("java.class.path"), "-d", out.toString(), file.toString());
    must(code == 0, "the examples of README.md do not compile");
    if (code == 0) {
      try (URLClassLoader loader = new URLClassLoader(new URL[] {out.toUri().toURL()})) {
        loader.loadClass("Examples").getMethod("main", String[].class).invoke(null, (Object) new String[0]);
      }
      must(made > 0, "README.md has no row with an answer");
    }
    for (String name : out.toFile().list()) Files.delete(out.resolve(name));
    Files.delete(out);
  }
}

import java.io.File;
import java.io.IOException;
import java.lang.reflect.Method;
import java.lang.reflect.Modifier;
import java.net.URL;
import java.net.URLClassLoader;
import java.nio.file.Files;
import java.nio.file.Path;
import java.util.ArrayList;
import java.util.List;
import java.util.regex.Matcher;
import java.util.regex.Pattern;
import javax.tools.ToolProvider;

/**
 * README.md: its example is compiled and run as it stands there, line by line, and each answer that a comment tells
 * is compared with that of the class. All methods are in the example, and all tests in the list of tests. It runs in
 * the project's folder.
 */
public final class ReadmeTest {
  private static final Path README = Path.of("README.md");
  private static final Path TESTS = Path.of("src/test/java");
  private static final String EXAMPLE = "ReadmeExample";
  private static final String FENCE = "```";
  private static final String MAKES = "RegisterAllocator x = new RegisterAllocator();";

  /** A call; perhaps a variable that gets its answer; the answer, which ends where an explanation begins. */
  private static final Pattern CALL =
      Pattern.compile("(?:(int|boolean|long) (\\w+) = )?(x\\.\\w+\\(.*\\)); +// ([^:]+)(?:: .*)?");
  private static final Pattern STEP = Pattern.compile("(\\d+): ([A-Z]+(?: -?\\d+)+)(?: +// .*)?");

  public static void main(String[] args) throws IOException, ReflectiveOperationException {
    List<String> lines = Files.readAllLines(README);
    allMethods(blocks(lines, "java"));
    allTests(lines);
    runExample(exampleOf(lines));
    Check.end();
  }

  private static List<String> blocks(List<String> lines, String kind) {
    List<String> inside = new ArrayList<>();
    boolean open = false;
    for (String line : lines) {
      if (line.startsWith(FENCE)) {
        open = !open && line.equals(FENCE + kind);
      } else if (open) {
        inside.add(line);
      }
    }
    return inside;
  }

  private static void allMethods(List<String> example) {
    String text = String.join("\n", example);
    for (Method method : RegisterAllocator.class.getDeclaredMethods()) {
      if (Modifier.isPublic(method.getModifiers())) {
        Check.due("the example calls " + method.getName(), text.contains("x." + method.getName() + "("), true);
      }
    }
    Check.due("the example makes one object, in its first line", example.get(0), MAKES);
  }

  private static void allTests(List<String> lines) {
    String text = String.join("\n", lines);
    Check.due("README.md tells how to run the tests", text.contains("\n    .ci/run\n"), true);
    for (String file : TESTS.toFile().list()) {
      if (file.endsWith("Test.java")) {
        String test = file.substring(0, file.length() - ".java".length());
        Check.due("README.md names " + test, text.contains("`" + test + "`"), true);
      }
    }
  }

  /** The class of the example: its lines in their order, each with a look at what it answers. */
  private static String exampleOf(List<String> lines) {
    StringBuilder source = new StringBuilder("public final class " + EXAMPLE + " {\n  public static void main(String[] args) {\n");
    String kind = "";
    List<String> steps = new ArrayList<>();
    for (int at = 0; at < lines.size(); at++) {
      String line = lines.get(at);
      String told = "README.md, line " + (at + 1) + ": ";
      if (line.startsWith(FENCE)) {
        if (kind.equals("steps")) {
          source.append(due(told + "the steps", "Check.steps(x)", String.join(", ", steps)));
        }
        kind = kind.isEmpty() ? line.substring(FENCE.length()) : "";
      } else if (kind.equals("java")) {
        source.append(call(told, line));
      } else if (kind.equals("steps")) {
        steps.add(step(told, line, steps.size()));
      }
    }
    return source + "    Check.end();\n  }\n}\n";
  }

  private static String call(String told, String line) {
    if (line.isEmpty() || line.equals(MAKES)) {
      return line + "\n";
    }
    Matcher call = CALL.matcher(line);
    if (!call.matches()) {
      Check.due(told + line, "no call with its answer", "one");
      return "";
    }
    String answer = call.group(4).trim().replace("throws ", "throws.");
    if (call.group(1) == null) {
      return due(told + call.group(3), "Check.outcome(() -> " + call.group(3) + ")", answer);
    }
    return "    " + call.group(1) + " " + call.group(2) + " = " + call.group(3) + ";\n"
        + due(told + call.group(3), call.group(2), answer);
  }

  private static String step(String told, String line, int number) {
    Matcher step = STEP.matcher(line);
    if (!step.matches() || Integer.parseInt(step.group(1)) != number) {
      Check.due(told + line, "no step", "step " + number);
      return "";
    }
    return step.group(2);
  }

  private static String due(String told, String got, String want) {
    return "    Check.due(\"" + told + "\", " + got + ", \"" + want + "\");\n";
  }

  /** In a loader of its own, with classes of its own: the example stands in the package of Check. */
  private static void runExample(String source) throws IOException, ReflectiveOperationException {
    String classes = System.getProperty("java.class.path");
    Path folder = madeForNow(Files.createTempDirectory("readme"));
    Path file = madeForNow(Files.writeString(folder.resolve(EXAMPLE + ".java"), source));
    madeForNow(folder.resolve(EXAMPLE + ".class"));
    int exit = ToolProvider.getSystemJavaCompiler()
        .run(null, null, null, "-proc:none", "-cp", classes, "-d", folder.toString(), file.toString());
    Check.due("javac of the example", exit, 0);
    if (exit == 0) {
      URL[] places = {folder.toUri().toURL(), new File(classes).toURI().toURL()};
      try (URLClassLoader loader = new URLClassLoader(places, ClassLoader.getPlatformClassLoader())) {
        loader.loadClass(EXAMPLE).getMethod("main", String[].class).invoke(null, (Object) new String[0]);
      }
    }
  }

  /** The example ends the program if an answer is wrong, so that nothing behind it could clean up. */
  private static Path madeForNow(Path path) {
    path.toFile().deleteOnExit();
    return path;
  }
}

import java.io.IOException;
import java.nio.charset.StandardCharsets;
import java.nio.file.Files;
import java.nio.file.Path;
import java.util.List;
import java.util.regex.Matcher;
import java.util.regex.Pattern;

/** Those rules of LANGUAGE.md that can be seen in the text of the class. It runs in the project's folder. */
public final class LanguageTest {
  private static final Path SOURCE = Path.of("src/main/java/RegisterAllocator.java");

  private static final List<String> RULED_OUT = List.of(
      "\\bpackage\\b", "\\bimport\\b", "->", "::", "\\bcatch\\b", "\\bfinally\\b", "\\btry\\b", "\\binstanceof\\b",
      "\\bsynchronized\\b", "\\bassert\\b", "\\bnull\\b", "\\bSystem\\b", "\\bThread\\b", "\\bMath\\.\\w+Exact\\b",
      "\\bnew Object\\b", "\\bwhile\\b", "\"\\s*\\+", "\\+\\s*\"", "[^\\x00-\\x7f]");

  private static final int MOST_LINES = 60;
  private static final int MOST_CLASSES = 12;

  public static void main(String[] args) throws IOException {
    String text = Files.readString(SOURCE, StandardCharsets.UTF_8);
    String code = text.replaceAll("(?s)/\\*.*?\\*/", "").replaceAll("//[^\n]*", "");
    for (String pattern : RULED_OUT) {
      Matcher matcher = Pattern.compile(pattern).matcher(code);
      Check.due("'" + pattern + "' stands in the source", matcher.find(), false);
    }
    Check.due("Math is used for more than min and max",
        Pattern.compile("\\bMath\\.(?!min\\(|max\\()").matcher(code).find(), false);
    Check.due("classes", count(code, "\\bclass \\w+") <= MOST_CLASSES, true);
    staticFields(code);
    exceptions(code);
    methods(code.split("\n"));
    Check.end();
  }

  private static int count(String code, String pattern) {
    return (int) Pattern.compile(pattern).matcher(code).results().count();
  }

  private static void staticFields(String code) {
    for (String line : code.split("\n")) {
      if (line.contains("static") && !line.contains("class ") && !line.contains("(")) {
        Check.due("rule 5: " + line.trim(), line.matches(".*static final (int|long) [A-Z_]+ = .*;"), true);
      }
    }
  }

  private static void exceptions(String code) {
    Check.due("rule 6: every throw makes one of the document's exceptions", count(code, "\\bthrow\\b"),
        count(code, "throw new (IllegalState|IllegalArgument|IndexOutOfBounds)Exception\\(\"[ -~]*\"\\);"));
  }

  private static void methods(String[] lines) {
    for (int first = 0; first < lines.length; first++) {
      String line = lines[first];
      String indent = line.startsWith("    ") ? "    " : "  ";
      if (line.matches("(  |    )[a-zA-Z].*\\(.*[{,]?") && !line.endsWith(";")) {
        int last = first;
        while (last < lines.length - 1 && !lines[last].equals(indent + "}")) {
          last++;
        }
        Check.due("lines of " + line.trim() + " (" + (last - first + 1) + ") are few", last - first < MOST_LINES, true);
        Check.due("parameters of " + line.trim() + " are few", line.split(",").length <= 7, true);
      }
    }
  }
}

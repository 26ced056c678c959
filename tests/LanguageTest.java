import java.io.IOException;
import java.nio.file.Files;
import java.nio.file.Path;
import java.util.List;
import java.util.regex.Matcher;
import java.util.regex.Pattern;

/** The rules of LANGUAGE.md that a look at the source's lines can tell. */
public final class LanguageTest {
  private static final Path SOURCE = Path.of("src/main/java/Lastasked.java");
  private static final int SOME_SIXTY = 66;
  private static final int SOME_TWELVE = 14;

  private static final String[] NEVER = {
    "\\bpackage\\b", "\\bimport (?!java\\.util\\.(ArrayList|List|Iterator|Arrays|NoSuchElementException);)",
    "::", "\\bfinally\\b", "\\bsynchronized\\b", "\\bassert\\b", "\\bprotected\\b",
    "\\bSystem\\.(?!arraycopy\\b)", "\\bThread\\b", "\\bRandom\\b", "\\bMath\\.random\\b",
    "Exact\\(", "\\.hashCode\\(", "\\.getMessage\\(", "\\btry *\\(", "\\bstatic \\{",
    "\\bstatic (?!final )[\\w\\[\\]]+ \\w+ *[=;]",
    "\\bcatch \\((ArrayIndexOutOfBounds|NullPointer|ClassCast|NegativeArraySize|ArrayStore)"
  };

  private static final String THROWN =
      "throw new (IllegalStateException|IllegalArgumentException|IndexOutOfBoundsException"
          + "|ArithmeticException|UnsupportedOperationException|NoSuchElementException"
          + "|RuntimeException)\\s*\\(\\s*(\"[^\"]+\")?\\s*\\);";

  public static void main(String[] args) throws IOException {
    List<String> lines = Files.readAllLines(SOURCE);
    String code = String.join("\n", lines).replaceAll("(?s)/\\*.*?\\*/|//[^\n]*", "");
    for (String never : NEVER) {
      Checks.no("found: " + never, Pattern.compile(never).matcher(code).find());
    }
    noLambda(code);
    onlyWrittenThrows(code);
    fewClasses(code);
    shortMethods(lines);
    onlyPlainSigns(code);
    Checks.end();
  }

  /** An arrow stands behind a case of a switch alone. */
  private static void noLambda(String code) {
    String found = "";
    for (String line : code.split("\n")) {
      if (line.contains("->") && !line.matches(".*\\b(case|default)\\b.*")) {
        found = line.trim();
      }
    }
    Checks.same("a lambda", found, "");
  }

  private static void onlyWrittenThrows(String code) {
    Matcher each = Pattern.compile("\\bthrow\\b(?:[^;\"]|\"[^\"]*\")*;").matcher(code);
    while (each.find()) {
      Checks.yes(each.group(), each.group().matches(THROWN));
    }
  }

  private static void fewClasses(String code) {
    Matcher each = Pattern.compile("\\bclass \\w+").matcher(code);
    int many = 0;
    while (each.find()) {
      many++;
    }
    Checks.yes("classes: " + many, many <= SOME_TWELVE);
  }

  /** A method ends where its closing brace stands as far in as its head. */
  private static void shortMethods(List<String> lines) {
    for (String indent : new String[] {"  ", "    "}) {
      int start = -1;
      for (int i = 0; i < lines.size(); i++) {
        String line = lines.get(i);
        if (line.matches(indent + "[\\w\\[\\]<> ]+\\(.*") && !line.contains("=")) {
          start = i;
        } else if (line.equals(indent + "}") && start >= 0) {
          Checks.yes("short: " + lines.get(start).trim(), i - start <= SOME_SIXTY);
          start = -1;
        }
      }
    }
  }

  private static void onlyPlainSigns(String code) {
    for (int i = 0; i < code.length(); i++) {
      if (code.charAt(i) > 127) {
        Checks.same("sign at " + i, code.charAt(i), ' ');
      }
    }
  }
}

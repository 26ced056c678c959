import java.io.IOException;
import java.io.UncheckedIOException;
import java.nio.file.Files;
import java.nio.file.Path;
import java.util.ArrayList;
import java.util.List;
import java.util.Set;

/** Ties each test of a boundary to the words of ../shared/DOC.md that it is for. */
final class Sentences {
  /** The number under which the words before promise 1 stand. */
  static final int DESCRIPTION = 0;

  private static final int PROMISES = 46;

  /** What names no answer of its own. */
  private static final Set<String> WITHOUT_EDGE =
      Set.of(
          "The constructor and the methods follow, a promise each: the signature, then what it does.",
          "Returns that.", "STEP.", "CUT.", "ASK.", "Knocks.", "Computes a checksum.",
          "Returns d.");

  private static final List<List<String>> SAID = read();
  private static final List<List<String>> TESTED = empty();

  private Sentences() {}

  /** Runs a test for words that must stand so, in one clause, under that promise. */
  static void holds(int promise, String words, Runnable test) {
    String what = (promise == DESCRIPTION ? "description" : "promise " + promise) + ": " + words;
    Checks.yes("the document has: " + what, stands(promise, words));
    TESTED.get(promise).add(words);
    Checks.within(what, test);
  }

  /** That no clause of the document is without a test of its own. */
  static void allTested() {
    for (int promise = 0; promise <= PROMISES; promise++) {
      Checks.no("promise " + promise + " is empty", SAID.get(promise).isEmpty());
      for (String clause : SAID.get(promise)) {
        Checks.yes("a test for promise " + promise + ": " + clause, isTested(promise, clause));
      }
    }
  }

  private static boolean stands(int promise, String words) {
    for (String clause : SAID.get(promise)) {
      if (clause.contains(words)) {
        return true;
      }
    }
    return false;
  }

  private static boolean isTested(int promise, String clause) {
    for (String words : TESTED.get(promise)) {
      if (clause.contains(words)) {
        return true;
      }
    }
    return false;
  }

  private static List<List<String>> empty() {
    List<List<String>> all = new ArrayList<>();
    for (int promise = 0; promise <= PROMISES; promise++) {
      all.add(new ArrayList<>());
    }
    return all;
  }

  private static List<List<String>> read() {
    List<List<String>> all = empty();
    int promise = -1;
    try {
      for (String line : Files.readAllLines(Path.of("../shared/DOC.md"))) {
        if (line.startsWith("## ")) {
          promise = headed(line);
        } else if (promise >= 0) {
          addClauses(all.get(promise), line.trim());
        }
      }
    } catch (IOException e) {
      throw new UncheckedIOException(e);
    }
    return all;
  }

  private static int headed(String line) {
    if (line.equals("## Description")) {
      return DESCRIPTION;
    }
    return line.startsWith("## Promise ") ? Integer.parseInt(line.split("[ :]")[2]) : -1;
  }

  /** A line's clauses, but for headings, signatures and parameters that name no edge. */
  private static void addClauses(List<String> all, String line) {
    boolean isHead = line.startsWith("`") || line.startsWith("----") || line.matches("\\d\\. \\w+");
    boolean isPlain = line.startsWith("- `") && !line.matches(".*(\\d|\\bany\\b|NONE).*");
    if (line.isEmpty() || isHead || isPlain) {
      return;
    }
    for (String clause : line.split("(?<=[.;]) ")) {
      if (!WITHOUT_EDGE.contains(clause)) {
        all.add(clause);
      }
    }
  }
}

import java.io.IOException;
import java.lang.reflect.Method;
import java.nio.file.Files;
import java.nio.file.Path;
import java.util.List;
import java.util.regex.Matcher;
import java.util.regex.Pattern;

/** README.md: its example answers what is written there, and each method is named. */
public final class ReadmeTest {
  private static final Path README = Path.of("README.md");

  /** A call, and behind it the answer that the comment begins with. */
  private static final Pattern LINE =
      Pattern.compile("x\\.(\\w+)\\(([^)]*)\\); +// (-?\\d+|\"[^\"]*\")(?:: .*)?");

  public static void main(String[] args) throws IOException, ReflectiveOperationException {
    List<String> lines = Files.readAllLines(README);
    example(lines);
    eachMethodNamed(String.join("\n", lines));
    Checks.end();
  }

  private static void example(List<String> lines) throws ReflectiveOperationException {
    Lastasked x = new Lastasked();
    int start = lines.indexOf("```java") + 1;
    Checks.same("the example's first line", lines.get(start), "Lastasked x = new Lastasked();");
    int calls = 0;
    for (int i = start + 1; i < lines.size() && !lines.get(i).equals("```"); i++) {
      if (lines.get(i).isEmpty()) {
        continue;
      }
      Matcher line = LINE.matcher(lines.get(i));
      Checks.yes("a call with its answer: " + lines.get(i), line.matches());
      if (line.matches()) {
        String due = line.group(3).replace("\"", "");
        String answer = String.valueOf(answer(x, line.group(1), line.group(2).split(", ")));
        Checks.same(lines.get(i), answer, due);
        calls++;
      }
    }
    Checks.yes("some calls", calls > 0);
  }

  private static Object answer(Lastasked x, String name, String[] written)
      throws ReflectiveOperationException {
    Method method = named(name);
    Class<?>[] types = method.getParameterTypes();
    Object[] arguments = new Object[written.length];
    for (int i = 0; i < written.length; i++) {
      boolean isNumber = types[i] == int.class;
      arguments[i] =
          isNumber ? (Object) Integer.valueOf(written[i]) : (Object) Boolean.valueOf(written[i]);
    }
    return method.invoke(x, arguments);
  }

  private static Method named(String name) throws NoSuchMethodException {
    for (Method method : Lastasked.class.getMethods()) {
      if (method.getName().equals(name)) {
        return method;
      }
    }
    throw new NoSuchMethodException(name);
  }

  private static void eachMethodNamed(String text) {
    for (Method method : Lastasked.class.getMethods()) {
      if (method.getDeclaringClass() == Lastasked.class) {
        String name = method.getName();
        Checks.yes("it names " + name, text.contains("`" + name + "`"));
      }
    }
  }
}

import java.io.IOException;
import java.lang.reflect.Constructor;
import java.lang.reflect.Field;
import java.lang.reflect.Method;
import java.lang.reflect.Modifier;
import java.nio.file.Files;
import java.nio.file.Path;
import java.util.ArrayList;
import java.util.List;
import java.util.Set;
import java.util.TreeSet;

/** The public face: just what the document lists, and no more (rule 1 of LANGUAGE.md). */
public final class FaceTest {
  public static void main(String[] args) throws IOException {
    Set<String> due = new TreeSet<>(documentedFace());
    Checks.same("how many the document lists", due.size(), 46);
    Checks.same("the face", actualFace(), due);
    Checks.same("the class", Modifier.toString(Lastasked.class.getModifiers()), "public final");
    onlyPrivateBeside();
    noPrivateTwin();
    Checks.end();
  }

  /** The lines of the document's first block of Java, without the names of parameters. */
  private static List<String> documentedFace() throws IOException {
    List<String> face = new ArrayList<>();
    boolean isInside = false;
    for (String line : Files.readAllLines(Path.of("../shared/DOC.md"))) {
      if (line.startsWith("```")) {
        isInside = line.equals("```java");
      } else if (isInside && line.startsWith("    public ")) {
        face.add(withoutNames(line.trim()));
      }
    }
    return face;
  }

  private static String withoutNames(String line) {
    return line.replaceAll("(int|boolean) \\w+([,)])", "$1$2").replace(";", "");
  }

  private static Set<String> actualFace() {
    Set<String> face = new TreeSet<>();
    for (Constructor<?> c : Lastasked.class.getDeclaredConstructors()) {
      if (!c.isSynthetic()) {
        String start = Modifier.toString(c.getModifiers()) + " Lastasked(";
        face.add(start + names(c.getParameterTypes(), ", ") + ")" + thrown(c.getExceptionTypes()));
      }
    }
    for (Method m : Lastasked.class.getDeclaredMethods()) {
      if (!m.isSynthetic() && !Modifier.isPrivate(m.getModifiers())) {
        String start = Modifier.toString(m.getModifiers()) + " ";
        String named = m.getReturnType().getSimpleName() + " " + m.getName() + "(";
        String types = names(m.getParameterTypes(), ", ") + ")";
        face.add(start + named + types + thrown(m.getExceptionTypes()));
      }
    }
    return face;
  }

  private static String names(Class<?>[] types, String between) {
    List<String> all = new ArrayList<>();
    for (Class<?> type : types) {
      all.add(type.getSimpleName());
    }
    return String.join(between, all);
  }

  private static String thrown(Class<?>[] types) {
    return types.length == 0 ? "" : " throws " + names(types, ", ");
  }

  private static void onlyPrivateBeside() {
    for (Field f : Lastasked.class.getDeclaredFields()) {
      if (!f.isSynthetic()) {
        Checks.yes("private: " + f.getName(), Modifier.isPrivate(f.getModifiers()));
      }
    }
    for (Class<?> c : Lastasked.class.getDeclaredClasses()) {
      boolean isOpen = Modifier.isPublic(c.getModifiers()) || Modifier.isProtected(c.getModifiers());
      Checks.no("hidden: " + c.getSimpleName(), isOpen);
    }
  }

  private static void noPrivateTwin() {
    Set<String> open = new TreeSet<>();
    for (Method m : Lastasked.class.getDeclaredMethods()) {
      if (Modifier.isPublic(m.getModifiers())) {
        open.add(m.getName());
      }
    }
    for (Method m : Lastasked.class.getDeclaredMethods()) {
      if (Modifier.isPrivate(m.getModifiers())) {
        Checks.no("a twin: " + m.getName(), open.contains(m.getName()));
      }
    }
  }
}

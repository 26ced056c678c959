import java.util.Objects;

/** Counts the answers that are as due and those that are not; every test program ends with it. */
final class Checks {
  /** A call whose exception, if any, is looked at. */
  interface Call {
    void run();
  }

  private static int right = 0;
  private static int wrong = 0;

  private Checks() {}

  static void same(String what, Object got, Object due) {
    if (Objects.equals(got, due)) {
      right++;
    } else {
      wrong++;
      System.out.println(what + " answered " + got + ", due is " + due);
    }
  }

  static void yes(String what, boolean got) {
    same(what, got, true);
  }

  static void no(String what, boolean got) {
    same(what, got, false);
  }

  static void noPlace(String what, Lastasked x, Call call) {
    fails(what, x, call, "IndexOutOfBoundsException");
  }

  static void noArgument(String what, Lastasked x, Call call) {
    fails(what, x, call, "IllegalArgumentException");
  }

  static void noState(String what, Lastasked x, Call call) {
    fails(what, x, call, "IllegalStateException");
  }

  /** That it throws exactly that, and that it changes nothing. */
  private static void fails(String what, Lastasked x, Call call, String due) {
    long before = x.digest();
    same(what, thrown(call), due);
    same(what + ", digest behind it", x.digest(), before);
  }

  private static String thrown(Call call) {
    try {
      call.run();
    } catch (RuntimeException e) {
      return e.getClass().getSimpleName();
    }
    return "nothing";
  }

  static void end() {
    System.out.println(right + " answers as due, " + wrong + " not");
    if (wrong != 0 || right == 0) {
      System.exit(1);
    }
  }
}

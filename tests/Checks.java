import java.util.Objects;
import java.util.function.IntSupplier;

/** Counts the answers that are as due and those that are not; every test program ends with it. */
final class Checks {
  /** A call whose exception, if any, is looked at. */
  interface Call {
    void run();
  }

  private static final long LONGEST_SECONDS = 300;

  private static int right = 0;
  private static int wrong = 0;
  private static volatile String inside = "";

  static {
    endIfTooLong();
  }

  private Checks() {}

  /** A call that never ends is a fault too: without this, the test would wait for it. */
  private static void endIfTooLong() {
    Thread watch =
        new Thread(
            () -> {
              try {
                Thread.sleep(LONGEST_SECONDS * 1000);
              } catch (InterruptedException e) {
                return;
              }
              System.out.println(inside + "did not end in " + LONGEST_SECONDS + " seconds");
              System.out.flush();
              Runtime.getRuntime().halt(1);
            });
    watch.setDaemon(true);
    watch.start();
  }

  static void same(String what, Object got, Object due) {
    if (Objects.equals(got, due)) {
      right++;
    } else {
      wrong++;
      System.out.println(inside + what + " answered " + got + ", due is " + due);
    }
  }

  /** Runs a test whose faults are told with what it is a test of; it may throw nothing. */
  static void within(String what, Runnable test) {
    inside = "[" + what + "] ";
    try {
      test.run();
    } catch (RuntimeException e) {
      same("the test", e.toString(), "no exception");
    }
    inside = "";
  }

  static void yes(String what, boolean got) {
    same(what, got, true);
  }

  static void no(String what, boolean got) {
    same(what, got, false);
  }

  static void noPlace(String what, Lastasked x, Call call) {
    fails(what, x, call, "IndexOutOfBoundsException");
  }

  static void noArgument(String what, Lastasked x, Call call) {
    fails(what, x, call, "IllegalArgumentException");
  }

  static void noState(String what, Lastasked x, Call call) {
    fails(what, x, call, "IllegalStateException");
  }

  /** That it throws exactly that, and that it changes nothing. */
  private static void fails(String what, Lastasked x, Call call, String due) {
    long before = x.digest();
    same(what, thrown(call), due);
    same(what + ", digest behind it", x.digest(), before);
  }

  /** That it answers REFUSED, that this is counted once, and that nothing else changes. */
  static void refused(String what, Lastasked x, IntSupplier call) {
    long before = x.digest();
    int counted = x.house(3);
    same(what, call.getAsInt(), -9);
    same(what + ", counted", x.house(3), counted + 1);
    same(what + ", digest behind it", x.digest(), before + weightOfRefusals(x));
  }

  /** By how much the digest grows with one refusal: 31 for each number that is mixed in later. */
  private static long weightOfRefusals(Lastasked x) {
    int later = 1 + 4 * (5 + 2) + x.house(0) + 2 * x.house(1) + x.house(2) + 6 * (3 + 20) + 1;
    long weight = 1;
    for (int i = 0; i < later; i++) {
      weight *= 31;
    }
    return weight;
  }

  private static String thrown(Call call) {
    try {
      call.run();
    } catch (RuntimeException e) {
      return e.getClass().getSimpleName();
    }
    return "nothing";
  }

  static void end() {
    System.out.println(right + " answers as due, " + wrong + " not");
    if (wrong != 0 || right == 0) {
      System.exit(1);
    }
  }
}

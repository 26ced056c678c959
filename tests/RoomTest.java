import com.sun.management.ThreadMXBean;
import java.lang.management.ManagementFactory;

/** That a run of the dearest calls stays below the room that all its calls share. */
public final class RoomTest {
  private static final int CALLS = 512;
  // 7.3 million fields and elements, of at least a byte each.
  private static final long MOST_BYTES = 7_300_000L;

  private static final ThreadMXBean THREADS =
      (ThreadMXBean) ManagementFactory.getThreadMXBean();

  public static void main(String[] args) {
    long warmUp = ofDigests() + ofTexts();
    Checks.yes("counted", warmUp > 0);
    Checks.yes("of digests", ofDigests() < MOST_BYTES);
    Checks.yes("of texts", ofTexts() < MOST_BYTES);
    Checks.end();
  }

  private static Lastasked filled() {
    Lastasked x = new Lastasked();
    for (int key = 0; key < 20; key++) {
      x.put(0, key, 99);
    }
    for (int i = 0; i < 5; i++) {
      x.askRow(0, 7, 12);
    }
    return x;
  }

  private static long ofDigests() {
    long before = THREADS.getThreadAllocatedBytes(Thread.currentThread().getId());
    Lastasked x = filled();
    for (int call = 25; call < CALLS; call++) {
      x.digest();
    }
    return THREADS.getThreadAllocatedBytes(Thread.currentThread().getId()) - before;
  }

  private static long ofTexts() {
    long before = THREADS.getThreadAllocatedBytes(Thread.currentThread().getId());
    Lastasked x = filled();
    for (int call = 25; call < CALLS; call++) {
      x.text(0, 2);
    }
    return THREADS.getThreadAllocatedBytes(Thread.currentThread().getId()) - before;
  }
}

import java.util.HashMap;
import java.util.Map;

/** Promise 42 again: BEST against a search that tries every key to let go. */
public final class BestTest {
  private static final int ROWS = 400;

  private static long seed = 11;

  public static void main(String[] args) {
    for (int row = 0; row < ROWS; row++) {
      compareRow(2 + below(7), 1 + below(24));
    }
    Checks.end();
  }

  private static int below(int bound) {
    seed = seed * 6364136223846793005L + 1442695040888963407L;
    return (int) ((seed >>> 33) % bound);
  }

  private static void compareRow(int manyKeys, int length) {
    Lastasked x = new Lastasked();
    int[] keys = new int[length];
    for (int i = 0; i < length; i++) {
      keys[i] = below(manyKeys);
      x.ask(keys[i]);
    }
    for (int size = 1; size <= 6; size++) {
      Checks.same("best of " + size + " for " + x.stack(), x.best(size), searched(keys, size));
    }
    Checks.yes("sound", x.isSound());
  }

  /** The fewest misses of each set of keys that can be held, asking by asking. */
  private static int searched(int[] keys, int size) {
    Map<Integer, Integer> missesOf = new HashMap<>();
    missesOf.put(0, 0);
    for (int key : keys) {
      Map<Integer, Integer> then = new HashMap<>();
      for (Map.Entry<Integer, Integer> e : missesOf.entrySet()) {
        spread(then, e.getKey(), e.getValue(), key, size);
      }
      missesOf = then;
    }
    int fewest = Integer.MAX_VALUE;
    for (int misses : missesOf.values()) {
      fewest = Math.min(fewest, misses);
    }
    return fewest;
  }

  private static void spread(
      Map<Integer, Integer> then, int held, int misses, int key, int size) {
    int asked = 1 << key;
    if ((held & asked) != 0) {
      then.merge(held, misses, Math::min);
    } else if (Integer.bitCount(held) < size) {
      then.merge(held | asked, misses + 1, Math::min);
    } else {
      for (int other = 0; other < 20; other++) {
        if ((held & (1 << other)) != 0) {
          then.merge((held & ~(1 << other)) | asked, misses + 1, Math::min);
        }
      }
    }
  }
}

import java.lang.reflect.Array;
import java.lang.reflect.Field;
import java.util.Arrays;

/**
 * Promise 45 once more, from inside: no call can make an object unsound, so each clause is broken
 * by hand. It knows the names of the class's own fields and is to change with them; but as the
 * document leaves free how the state is held, other names alone are no fault.
 */
public final class SoundTest {
  public static void main(String[] args) throws ReflectiveOperationException {
    Checks.yes("sound: new", new Lastasked().isSound());
    try {
      brokenByHand();
    } catch (NoSuchFieldException e) {
      System.out.println("NOT LOOKED AT, for the class has no longer the field: " + e.getMessage());
    }
    Checks.end();
  }

  private static void brokenByHand() throws ReflectiveOperationException {
    tableAboveMost();
    keeperAboveMost();
    keeperInAnotherSequence();
    keeperWithTooFew();
    missesNotByDepth();
    bestAboveMisses();
    theoremBroken();
  }

  private static Object at(Object owner, String... path) throws ReflectiveOperationException {
    Object found = owner;
    for (String step : path) {
      if (step.matches("\\d+")) {
        found = Array.get(found, Integer.parseInt(step));
      } else {
        found = field(found, step).get(found);
      }
    }
    return found;
  }

  private static Field field(Object owner, String name) throws ReflectiveOperationException {
    Field field = owner.getClass().getDeclaredField(name);
    field.setAccessible(true);
    return field;
  }

  private static void put(Object owner, String name, int value)
      throws ReflectiveOperationException {
    field(owner, name).setInt(owner, value);
  }

  private static Object keeper(Lastasked x, int size) throws ReflectiveOperationException {
    return at(x, "keepers", String.valueOf(size - 1));
  }

  /** Gives every asking that depth, and every keeper the misses that follow from it. */
  private static void depthsAll(Lastasked x, int depth) throws ReflectiveOperationException {
    int[] depths = (int[]) at(x, "askings", "depths");
    Arrays.fill(depths, depth);
    for (int size = 1; size <= 6; size++) {
      put(keeper(x, size), "missed", depth == 0 ? x.asked() : 0);
    }
  }

  /** It is told, and the digest's last number is 0 then. */
  private static void unsound(String what, Lastasked x) {
    Checks.no(what, x.isSound());
    Checks.same(what + ": the digest", x.digest(), HouseBoundaries.told(x).longValue());
  }

  private static void tableAboveMost() throws ReflectiveOperationException {
    for (int table = 0; table < 4; table++) {
      Lastasked x = new Lastasked();
      x.put(table, 1, 1);
      x.put(table, 2, 2);
      Object row = at(x, "tables", String.valueOf(table), "row");
      put(row, "most", 2);
      Checks.yes("just its most", x.isSound());
      put(row, "most", 1);
      unsound("above its most", x);
    }
  }

  private static void keeperAboveMost() throws ReflectiveOperationException {
    Lastasked x = Edges.rounds(7);
    put(at(keeper(x, 6), "row"), "most", 5);
    unsound("a keeper above its most", x);
  }

  private static void keeperInAnotherSequence() throws ReflectiveOperationException {
    for (int size = 2; size <= 6; size++) {
      for (int place = 0; place < size - 1; place++) {
        Lastasked x = Edges.rounds(7);
        int[] keys = (int[]) at(keeper(x, size), "row", "keys");
        int moved = keys[place];
        keys[place] = keys[place + 1];
        keys[place + 1] = moved;
        unsound("keeper " + size + " in another sequence", x);
      }
    }
    for (int size = 1; size <= 6; size++) {
      for (int place = 0; place < size; place++) {
        Lastasked x = Edges.rounds(7);
        ((int[]) at(keeper(x, size), "row", "keys"))[place] = 19;
        unsound("keeper " + size + " with another key", x);
      }
    }
  }

  private static void keeperWithTooFew() throws ReflectiveOperationException {
    for (int size = 1; size <= 6; size++) {
      Lastasked x = new Lastasked();
      x.askRow(5, 0, 3);
      put(at(keeper(x, size), "row"), "count", 0);
      unsound("keeper " + size + " with too few", x);
    }
  }

  private static void missesNotByDepth() throws ReflectiveOperationException {
    for (int size = 1; size <= 6; size++) {
      for (int wrong = -1; wrong <= 1; wrong += 2) {
        Lastasked x = Edges.asking(0, 0, 1, 2, 3, 4, 5, 6, 0, 1, 2, 2);
        put(keeper(x, size), "missed", x.misses(size) + wrong);
        unsound("misses of " + size + " by " + wrong, x);
      }
    }
  }

  private static void bestAboveMisses() throws ReflectiveOperationException {
    Lastasked x = Edges.rounds(60);
    depthsAll(x, 1);
    unsound("no misses, yet a best of some", x);
  }

  private static void theoremBroken() throws ReflectiveOperationException {
    Lastasked x = new Lastasked();
    x.askRow(5, 0, 12);
    depthsAll(x, 0);
    unsound("only misses, yet a best of 1", x);
  }
}

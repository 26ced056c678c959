/** Promises 27 to 42: the askings, the stack, the keepers and the best. */
public final class AskingsTest {
  private static final int[] NO_SIZES = {0, 7, -1, Integer.MIN_VALUE, Integer.MAX_VALUE};
  private static final int[] NO_KEYS = {-1, 20, Integer.MIN_VALUE, Integer.MAX_VALUE};

  public static void main(String[] args) {
    promise27Ask();
    promise27AskWrong();
    promise28AskRow();
    promise28AskRowWrong();
    promise29Forget();
    promises30To32Asked();
    promise33Depth();
    promise34Stack();
    promise35Kept();
    promises36And37Keeps();
    promises38And39Misses();
    promise40Lost();
    promise41WithDepth();
    promise42Best();
    promise42BestIsNotGreedy();
    promises35To42Wrong();
    Checks.end();
  }

  /** Asks 3 4 3 5 6 4: the stack is 3 5 6 4 then, the depths 0 0 2 0 0 4. */
  private static Lastasked six() {
    Lastasked x = new Lastasked();
    for (int key : new int[] {3, 4, 3, 5, 6, 4}) {
      x.ask(key);
    }
    return x;
  }

  /** 60 askings of the key 0. */
  private static Lastasked full() {
    Lastasked x = new Lastasked();
    for (int i = 0; i < 5; i++) {
      x.askRow(0, 0, 12);
    }
    return x;
  }

  private static void promise27Ask() {
    Lastasked x = new Lastasked();
    Checks.same("ask: new", x.ask(0), 0);
    Checks.same("ask: at once again", x.ask(0), 6);
    Checks.same("ask: the last key", x.ask(19), 0);
    Checks.same("ask: the one before", x.ask(0), 5);
    x.askRow(1, 1, 4);
    Checks.same("ask: at depth 5", x.ask(0), 2);
    x.askRow(5, 1, 5);
    Checks.same("ask: at depth 6", x.ask(0), 1);
    x.askRow(10, 1, 6);
    Checks.same("ask: at depth 7", x.ask(0), 0);
    Checks.same("ask: changes no table", x.house(0), 0);
  }

  private static void promise27AskWrong() {
    Lastasked x = six();
    for (int no : NO_KEYS) {
      Checks.noArgument("ask of " + no, x, () -> x.ask(no));
    }
    Lastasked y = full();
    Checks.same("ask: 60 of them", y.asked(), 60);
    Checks.noState("ask: the 61st", y, () -> y.ask(1));
    Checks.noArgument("ask: both wrong", y, () -> y.ask(20));
    Checks.same("ask: forgotten before", y.forget(), 60);
    Checks.same("ask: room again", y.ask(1), 0);
    Lastasked z = new Lastasked();
    for (int i = 0; i < 60; i++) {
      z.ask(i % 20);
    }
    Checks.same("ask: the 60th is taken", z.askedAt(59), 19);
    Checks.noState("ask: one by one, the 61st", z, () -> z.ask(0));
  }

  private static void promise28AskRow() {
    Lastasked x = new Lastasked();
    Checks.same("askRow: five new ones", x.askRow(0, 1, 5), 0);
    Checks.same("askRow: once more", x.askRow(0, 1, 5), 10);
    Checks.same("askRow: by its rest", x.askRow(19, 3, 3), 3);
    Checks.same("askRow: the first of these", x.askedAt(10), 19);
    Checks.same("askRow: the next by rest", x.askedAt(11), 2);
    Checks.same("askRow: the last by rest", x.askedAt(12), 5);
    Checks.same("askRow: standing", x.askRow(7, 0, 12), 66);
    Checks.same("askRow: how many", x.asked(), 25);
    Lastasked y = new Lastasked();
    y.askRow(19, 19, 12);
    Checks.same("askRow: the greatest", y.stack(), "19 18 17 16 15 14 13 12 11 10 9 8");
  }

  private static void promise28AskRowWrong() {
    Lastasked x = six();
    for (int no : NO_KEYS) {
      Checks.noArgument("askRow from " + no, x, () -> x.askRow(no, 1, 1));
      Checks.noArgument("askRow by " + no, x, () -> x.askRow(1, no, 1));
    }
    for (int no : new int[] {0, 13, -1, Integer.MIN_VALUE, Integer.MAX_VALUE}) {
      Checks.noArgument("askRow of " + no, x, () -> x.askRow(1, 1, no));
    }
    Lastasked y = new Lastasked();
    for (int i = 0; i < 4; i++) {
      y.askRow(0, 1, 12);
    }
    y.ask(3);
    Checks.noState("askRow: 61 of them", y, () -> y.askRow(0, 1, 12));
    Checks.noArgument("askRow: too many, and wrong", y, () -> y.askRow(0, 20, 12));
    Checks.same("askRow: just 60", y.askRow(3, 0, 11), 66);
    Checks.same("askRow: 60 stand", y.asked(), 60);
    Checks.noState("askRow: one more", y, () -> y.askRow(0, 1, 1));
    Checks.noArgument("askRow: none more, and wrong", y, () -> y.askRow(0, 1, 13));
  }

  private static void promise29Forget() {
    Lastasked x = six();
    x.put(0, 1, 1);
    x.set(0, 9, 9);
    x.knock();
    Checks.same("forget", x.forget(), 6);
    Checks.same("forget: again", x.forget(), 0);
    Checks.same("forget: asked", x.asked(), 0);
    Checks.same("forget: askedAt", x.askedAt(0), -1);
    Checks.same("forget: depthAt", x.depthAt(0), -1);
    Checks.same("forget: stack", x.stack(), "");
    Checks.same("forget: depth", x.depth(3), 0);
    Checks.same("forget: withDepth", x.withDepth(0), 0);
    for (int size = 1; size <= 6; size++) {
      Checks.same("forget: kept", x.kept(size), "");
      Checks.no("forget: keeps", x.keeps(size, 4));
      Checks.same("forget: takenAt", x.takenAt(size, 4), -1);
      Checks.same("forget: misses", x.misses(size), 0);
      Checks.same("forget: hits", x.hits(size), 0);
      Checks.same("forget: lost", x.lost(size), -1);
      Checks.same("forget: best", x.best(size), 0);
    }
    Checks.same("forget: no table", x.house(0), 1);
    Checks.same("forget: no refusal", x.house(3), 1);
    Checks.same("forget: no knock", x.house(4), 1);
    Checks.same("forget: asks from 0 on", x.ask(4), 0);
    Checks.same("forget: numbers from 0 on", x.takenAt(1, 4), 0);
    Checks.same("forget: best from 0 on", x.best(1), 1);
  }

  private static void promises30To32Asked() {
    Lastasked x = six();
    Checks.same("asked", x.asked(), 6);
    int[] keys = {3, 4, 3, 5, 6, 4};
    int[] depths = {0, 0, 2, 0, 0, 4};
    for (int nth = 0; nth < 6; nth++) {
      Checks.same("askedAt " + nth, x.askedAt(nth), keys[nth]);
      Checks.same("depthAt " + nth, x.depthAt(nth), depths[nth]);
    }
    for (int no : new int[] {-1, 6, 60, Integer.MIN_VALUE, Integer.MAX_VALUE}) {
      Checks.same("askedAt " + no, x.askedAt(no), -1);
      Checks.same("depthAt " + no, x.depthAt(no), -1);
    }
    Lastasked y = full();
    Checks.same("askedAt: the last", y.askedAt(59), 0);
    Checks.same("depthAt: the last", y.depthAt(59), 1);
    Checks.same("askedAt: behind the last", y.askedAt(60), -1);
    Checks.same("depthAt: behind the last", y.depthAt(60), -1);
  }

  private static void promise33Depth() {
    Lastasked x = six();
    Checks.same("depth: the last", x.depth(4), 1);
    Checks.same("depth: the first", x.depth(3), 4);
    Checks.same("depth: not there", x.depth(19), 0);
    Checks.same("depth: asks nothing", x.asked(), 6);
    Checks.same("depth: changes nothing", x.stack(), "3 5 6 4");
    for (int no : NO_KEYS) {
      Checks.noArgument("depth of " + no, x, () -> x.depth(no));
    }
    Lastasked y = new Lastasked();
    y.askRow(0, 1, 10);
    y.askRow(10, 1, 10);
    Checks.same("depth: the deepest", y.depth(0), 20);
    y.ask(0);
    Checks.same("depth: had the deepest", y.depthAt(20), 20);
  }

  private static void promise34Stack() {
    Lastasked x = new Lastasked();
    Checks.same("stack: without", x.stack(), "");
    x.ask(0);
    Checks.same("stack: one", x.stack(), "0");
    x.ask(19);
    x.ask(7);
    Checks.same("stack", x.stack(), "0 19 7");
    x.ask(0);
    Checks.same("stack: goes to the end", x.stack(), "19 7 0");
    Lastasked y = new Lastasked();
    y.askRow(0, 1, 12);
    y.askRow(12, 1, 8);
    Checks.same("stack: all", y.stack(), "0 1 2 3 4 5 6 7 8 9 10 11 12 13 14 15 16 17 18 19");
  }

  private static void promise35Kept() {
    Lastasked x = six();
    String[] due = {"4", "6 4", "5 6 4", "3 5 6 4", "3 5 6 4", "3 5 6 4"};
    for (int size = 1; size <= 6; size++) {
      Checks.same("kept of " + size, x.kept(size), due[size - 1]);
    }
  }

  private static void promises36And37Keeps() {
    Lastasked x = six();
    Checks.yes("keeps: 6 at 2", x.keeps(2, 6));
    Checks.no("keeps: 5 at 2", x.keeps(2, 5));
    Checks.yes("keeps: 5 at 3", x.keeps(3, 5));
    Checks.no("keeps: never asked", x.keeps(6, 0));
    Checks.same("takenAt: anew behind a miss", x.takenAt(3, 4), 5);
    Checks.same("takenAt: stays at a hit", x.takenAt(4, 4), 1);
    Checks.same("takenAt: the first", x.takenAt(6, 3), 0);
    Checks.same("takenAt: let go", x.takenAt(1, 3), -1);
    Checks.same("takenAt: never asked", x.takenAt(6, 19), -1);
    x.ask(3);
    Checks.same("takenAt: a hit at 4", x.takenAt(4, 3), 0);
    Checks.same("takenAt: a miss at 3", x.takenAt(3, 3), 6);
    for (int no : NO_KEYS) {
      Checks.noArgument("keeps of key " + no, x, () -> x.keeps(1, no));
      Checks.noArgument("takenAt of key " + no, x, () -> x.takenAt(1, no));
    }
  }

  private static void promises38And39Misses() {
    Lastasked x = six();
    int[] due = {6, 5, 5, 4, 4, 4};
    for (int size = 1; size <= 6; size++) {
      Checks.same("misses of " + size, x.misses(size), due[size - 1]);
      Checks.same("hits of " + size, x.hits(size), 6 - due[size - 1]);
    }
    Lastasked y = full();
    Checks.same("misses: one key", y.misses(1), 1);
    Checks.same("hits: one key", y.hits(1), 59);
  }

  private static void promise40Lost() {
    Lastasked x = six();
    int[] due = {6, 5, 3, -1, -1, -1};
    for (int size = 1; size <= 6; size++) {
      Checks.same("lost of " + size, x.lost(size), due[size - 1]);
    }
    x.ask(0);
    Checks.same("lost: key 3 of 4", x.lost(4), 3);
    x.ask(0);
    Checks.same("lost: a hit loses none", x.lost(1), 4);
  }

  private static void promise41WithDepth() {
    Lastasked x = six();
    Checks.same("withDepth 0", x.withDepth(0), 4);
    Checks.same("withDepth 1", x.withDepth(1), 0);
    Checks.same("withDepth 2", x.withDepth(2), 1);
    Checks.same("withDepth 4", x.withDepth(4), 1);
    for (int no : new int[] {-1, 3, 21, Integer.MIN_VALUE, Integer.MAX_VALUE}) {
      Checks.same("withDepth " + no, x.withDepth(no), 0);
    }
    Checks.same("withDepth: of one key", full().withDepth(1), 59);
  }

  private static void promise42Best() {
    Lastasked x = six();
    int[] due = {6, 4, 4, 4, 4, 4};
    for (int size = 1; size <= 6; size++) {
      Checks.same("best of " + size, x.best(size), due[size - 1]);
    }
    Lastasked y = new Lastasked();
    for (int i = 0; i < 3; i++) {
      y.askRow(0, 1, 5);
    }
    int[] dueOfRounds = {15, 12, 9, 7, 5, 5};
    for (int size = 1; size <= 6; size++) {
      Checks.same("best of rounds, of " + size, y.best(size), dueOfRounds[size - 1]);
    }
    Checks.same("best: one key", full().best(1), 1);
    Checks.same("best: of no askings", new Lastasked().best(6), 0);
  }

  /** 0 1 2 0 1 2: of two, the asked one must be taken in, though it is the farthest. */
  private static void promise42BestIsNotGreedy() {
    Lastasked x = new Lastasked();
    x.askRow(0, 1, 3);
    x.askRow(0, 1, 3);
    Checks.same("best: of 1", x.best(1), 6);
    Checks.same("best: of 2", x.best(2), 4);
    Checks.same("best: of 3", x.best(3), 3);
    Lastasked y = new Lastasked();
    for (int key : new int[] {0, 1, 0, 2, 0}) {
      y.ask(key);
    }
    Checks.same("best: each is taken in", y.best(1), 5);
    Checks.same("best: of 2, each is taken in", y.best(2), 3);
  }

  private static void promises35To42Wrong() {
    Lastasked x = six();
    for (int no : NO_SIZES) {
      Checks.noArgument("kept of " + no, x, () -> x.kept(no));
      Checks.noArgument("keeps of " + no, x, () -> x.keeps(no, 1));
      Checks.noArgument("takenAt of " + no, x, () -> x.takenAt(no, 1));
      Checks.noArgument("misses of " + no, x, () -> x.misses(no));
      Checks.noArgument("hits of " + no, x, () -> x.hits(no));
      Checks.noArgument("lost of " + no, x, () -> x.lost(no));
      Checks.noArgument("best of " + no, x, () -> x.best(no));
    }
  }
}

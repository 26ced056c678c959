/** The edges that the description and promises 21 to 26 name of walks. */
final class WalkBoundaries {
  /** A call of table 2 that makes its walk stale, or does not. */
  interface Act {
    void on(Lastasked x);
  }

  private WalkBoundaries() {}

  static void all() {
    walks();
    steps();
    cuts();
    staleness();
    looks();
    rests();
  }

  private static void says(String words, Runnable test) {
    Sentences.holds(Sentences.DESCRIPTION, words, test);
  }

  private static void walks() {
    says("Each TABLE has a WALK or none (none at first)", WalkBoundaries::noneAtFirst);
    says("along its KEYS (0), its VALUES (1) or its PAIRS (2: told as KEY * 100 + VALUE)",
        WalkBoundaries::kinds);
    says("It is ahead of the first one, as it begins", WalkBoundaries::aheadOfFirst);
    Sentences.holds(21, "A WALK begins (instead of the one that there was)",
        WalkBoundaries::insteadOfOld);
    Sentences.holds(21, "0 KEYS, 1 VALUES, 2 PAIRS", WalkBoundaries::kinds);
    Sentences.holds(21, "Returns how many are ahead of it", WalkBoundaries::howManyAhead);
    Sentences.holds(21, "there is no such TABLE", WalkBoundaries::walkOfNoTable);
    Sentences.holds(21, "what is not 0 to 2", WalkBoundaries::walkOfNoKind);
  }

  private static void noneAtFirst() {
    for (int table = 0; table < 4; table++) {
      Lastasked x = new Lastasked();
      x.put(table, 1, 1);
      int t = table;
      Checks.no("hasMore", x.hasMore(table));
      Checks.no("isStale", x.isStale(table));
      Checks.refused("step", x, () -> x.step(t));
      Checks.refused("cut", x, () -> x.cut(t));
      Checks.refused("rest", x, () -> x.rest(t));
    }
  }

  private static void kinds() {
    int[][] due = {{0, 19, 7}, {99, 0, 70}, {99, 1900, 770}};
    for (int what = 0; what <= 2; what++) {
      Lastasked x = new Lastasked();
      x.put(2, 0, 99);
      x.put(2, 19, 0);
      x.put(2, 7, 70);
      x.walk(2, what);
      for (int told : due[what]) {
        Checks.same("kind " + what, x.step(2), told);
      }
      Checks.same("the end of kind " + what, x.step(2), -8);
    }
  }

  private static void aheadOfFirst() {
    Lastasked x = Edges.filled(false, -1, 1);
    x.walk(2, 0);
    Checks.yes("one ahead", x.hasMore(2));
    Checks.refused("nothing to cut", x, () -> x.cut(2));
    Checks.same("the first", x.step(2), 1);
    Checks.no("no other", x.hasMore(2));
  }

  private static void insteadOfOld() {
    Lastasked x = Edges.four();
    x.walk(2, 0);
    x.step(2);
    x.step(2);
    x.walk(2, 1);
    Checks.refused("the old one's step can not be cut", x, () -> x.cut(2));
    Checks.same("from the first one on", x.step(2), 10);
    x.rest(2);
    x.walk(2, 2);
    Checks.yes("instead of one at its end", x.hasMore(2));
    x.get(2, 9);
    x.walk(2, 0);
    Checks.no("instead of a stale one", x.isStale(2));
    Checks.same("that goes on", x.step(2), 1);
    x.walk(1, 0);
    Checks.same("each table has its own", x.step(2), 2);
  }

  private static void howManyAhead() {
    Lastasked x = Edges.allKeys();
    Checks.same("all keys", x.walk(2, 0), 20);
    Checks.same("empty", x.walk(0, 0), 0);
    x.put(0, 1, 1);
    Checks.same("one", x.walk(0, 2), 1);
    x.step(2);
    x.cut(2);
    x.step(2);
    Checks.same("all of them again", x.walk(2, 1), 19);
    x.make(1, false, 2);
    x.put(1, 1, 1);
    x.put(1, 2, 2);
    x.put(1, 3, 3);
    Checks.same("no more than MOST", x.walk(1, 0), 2);
  }

  private static void walkOfNoTable() {
    Lastasked x = Edges.four();
    for (int no : Edges.NO_TABLES) {
      Checks.noPlace("table " + no, x, () -> x.walk(no, 0));
    }
  }

  private static void walkOfNoKind() {
    Lastasked x = Edges.four();
    x.walk(2, 0);
    x.step(2);
    for (int no : Edges.NO_THREE) {
      Checks.noArgument("kind " + no, x, () -> x.walk(2, no));
      Checks.noArgument("kind " + no + ", of an empty one", x, () -> x.walk(0, no));
    }
    Checks.same("the old one goes on", x.step(2), 2);
    Checks.same("none began", x.step(0), -9);
  }

  private static void steps() {
    says("STEP: it goes on to the next one and tells it", WalkBoundaries::nextOne);
    Sentences.holds(22, "Returns what it comes to", WalkBoundaries::nextOne);
    Sentences.holds(22, "-8 if there is nothing more", WalkBoundaries::nothingMore);
    Sentences.holds(22, "(then it stays)", WalkBoundaries::staysAtEnd);
    Sentences.holds(22, "REFUSED without a WALK", WalkBoundaries::stepWithoutWalk);
    Sentences.holds(22, "if it is STALE", WalkBoundaries::stepOfStale);
    Sentences.holds(22, "there is no such TABLE", WalkBoundaries::stepOfNoTable);
  }

  private static void nextOne() {
    Lastasked x = Edges.allKeys();
    x.walk(2, 2);
    for (int key = 0; key < 20; key++) {
      Checks.same("key " + key, x.step(2), key * 100 + 99);
    }
    Checks.same("as many", x.size(2), 20);
    Checks.same("as they were", x.eldest(2), 0);
  }

  private static void nothingMore() {
    Lastasked x = Edges.filled(true, -1, 1);
    x.walk(2, 0);
    Checks.same("the only one", x.step(2), 1);
    Checks.same("behind it", x.step(2), -8);
    x.walk(0, 0);
    Checks.same("of an empty one", x.step(0), -8);
    x.walk(2, 1);
    x.rest(2);
    Checks.same("behind a rest", x.step(2), -8);
    x.walk(2, 1);
    x.step(2);
    x.cut(2);
    Checks.same("when all are cut", x.step(2), -8);
    Checks.same("is no refusal", x.house(3), 0);
  }

  private static void staysAtEnd() {
    Lastasked x = Edges.four();
    x.walk(2, 0);
    x.rest(2);
    for (int i = 0; i < 30; i++) {
      Checks.same("again", x.step(2), -8);
    }
    Checks.no("no more", x.hasMore(2));
    Checks.no("not stale", x.isStale(2));
    Checks.same("no more in a rest", x.rest(2), 0);
    Checks.same("the last one can be cut", x.cut(2), 3);
    Checks.same("it was the last one", x.text(2, 0), "1 2 3");
    Checks.same("and stays", x.step(2), -8);
    Checks.same("is no refusal", x.house(3), 0);
  }

  private static void stepWithoutWalk() {
    Lastasked x = Edges.four();
    Checks.refused("with pairs", x, () -> x.step(2));
    Checks.refused("empty", x, () -> x.step(0));
    x.walk(1, 0);
    Checks.refused("with one of another table", x, () -> x.step(2));
  }

  private static void stepOfStale() {
    Lastasked x = Edges.four();
    x.walk(2, 0);
    x.get(2, 4);
    Checks.refused("at the beginning", x, () -> x.step(2));
    x.walk(2, 0);
    x.rest(2);
    x.get(2, 4);
    Checks.refused("at the end", x, () -> x.step(2));
    x.walk(0, 0);
    x.clear(0);
    Checks.refused("of an empty one", x, () -> x.step(0));
  }

  private static void stepOfNoTable() {
    Lastasked x = Edges.four();
    for (int no : Edges.NO_TABLES) {
      Checks.noPlace("table " + no, x, () -> x.step(no));
    }
  }

  private static void cuts() {
    says("CUT: the PAIR to which it came last goes", WalkBoundaries::lastComeTo);
    says("(once for each STEP)", WalkBoundaries::onceForEachStep);
    says("the WALK goes on behind it", WalkBoundaries::goesOnBehind);
    Sentences.holds(23, "Returns how many PAIRS are left", WalkBoundaries::howManyLeft);
    Sentences.holds(23, "REFUSED without a WALK", WalkBoundaries::cutWithoutWalk);
    Sentences.holds(23, "if it is STALE", WalkBoundaries::cutOfStale);
    Sentences.holds(23, "if it made no STEP behind the last CUT", WalkBoundaries::cutBehindCut);
    Sentences.holds(23, "or none at all", WalkBoundaries::cutWithoutStep);
    Sentences.holds(23, "(a STEP that told -8 is none)", WalkBoundaries::cutBehindNothing);
    Sentences.holds(23, "there is no such TABLE", WalkBoundaries::cutOfNoTable);
  }

  private static Lastasked stepped(int many) {
    Lastasked x = Edges.four();
    x.walk(2, 0);
    for (int i = 0; i < many; i++) {
      x.step(2);
    }
    return x;
  }

  private static void lastComeTo() {
    String[] due = {"2=20 3=30 4=40", "1=10 3=30 4=40", "1=10 2=20 4=40", "1=10 2=20 3=30"};
    for (int many = 1; many <= 4; many++) {
      Lastasked x = stepped(many);
      x.cut(2);
      Checks.same("behind " + many, x.text(2, 2), due[many - 1]);
      Checks.no("key " + many, x.has(2, many));
      Checks.same("is not lost", x.ofTable(2, 2), 0);
    }
    Lastasked y = Edges.filled(false, 1, 1);
    y.walk(2, 2);
    y.step(2);
    y.cut(2);
    Checks.same("the only one", y.text(2, 2), "");
  }

  private static void onceForEachStep() {
    Lastasked x = stepped(3);
    Checks.same("once", x.cut(2), 3);
    Checks.refused("not for the steps before", x, () -> x.cut(2));
    x.step(2);
    Checks.same("once more", x.cut(2), 2);
    Checks.refused("not twice", x, () -> x.cut(2));
    Checks.same("pairs", x.text(2, 0), "1 2");
  }

  private static void goesOnBehind() {
    for (int many = 1; many <= 3; many++) {
      Lastasked x = stepped(many);
      x.cut(2);
      Checks.no("not stale", x.isStale(2));
      Checks.yes("more", x.hasMore(2));
      Checks.same("behind " + many, x.step(2), many + 1);
    }
    Lastasked y = stepped(4);
    y.cut(2);
    Checks.no("not stale at the end", y.isStale(2));
    Checks.no("none at the end", y.hasMore(2));
    Checks.same("nothing more at the end", y.step(2), -8);
  }

  private static void howManyLeft() {
    Lastasked x = Edges.allKeys();
    x.walk(2, 0);
    for (int left = 19; left >= 0; left--) {
      x.step(2);
      Checks.same("left", x.cut(2), left);
    }
    Checks.same("none", x.size(2), 0);
    Checks.same("no refusal", x.house(3), 0);
  }

  private static void cutWithoutWalk() {
    Lastasked x = Edges.four();
    Checks.refused("with pairs", x, () -> x.cut(2));
    Checks.refused("empty", x, () -> x.cut(0));
    x.walk(1, 0);
    Checks.refused("with one of another table", x, () -> x.cut(2));
  }

  private static void cutOfStale() {
    Lastasked x = stepped(2);
    x.get(2, 9);
    Checks.refused("with a step to cut", x, () -> x.cut(2));
    Checks.same("pairs", x.text(2, 0), "1 2 3 4");
    Lastasked y = stepped(4);
    y.copy(2, 2);
    Checks.refused("at the end", y, () -> y.cut(2));
  }

  private static void cutBehindCut() {
    Lastasked x = stepped(4);
    x.cut(2);
    Checks.refused("at the end", x, () -> x.cut(2));
    Lastasked y = stepped(1);
    y.cut(2);
    Checks.refused("at the beginning", y, () -> y.cut(2));
    y.hasMore(2);
    y.set(2, 0, 1);
    Checks.refused("only a step helps", y, () -> y.cut(2));
    Checks.same("pairs", y.text(2, 0), "2 3 4");
  }

  private static void cutWithoutStep() {
    Lastasked x = stepped(0);
    Checks.refused("with pairs ahead", x, () -> x.cut(2));
    x.walk(0, 0);
    Checks.refused("of an empty one", x, () -> x.cut(0));
    x.step(2);
    x.walk(2, 0);
    Checks.refused("a step of the walk before", x, () -> x.cut(2));
  }

  private static void cutBehindNothing() {
    Lastasked x = Edges.four();
    x.walk(0, 0);
    x.step(0);
    Checks.refused("of an empty one", x, () -> x.cut(0));
    x.walk(2, 0);
    x.rest(2);
    x.cut(2);
    x.step(2);
    Checks.refused("behind a cut", x, () -> x.cut(2));
    Checks.same("pairs", x.text(2, 0), "1 2 3");
    Lastasked y = stepped(5);
    Checks.same("the step before it still counts", y.cut(2), 3);
  }

  private static void cutOfNoTable() {
    Lastasked x = stepped(1);
    for (int no : Edges.NO_TABLES) {
      Checks.noPlace("table " + no, x, () -> x.cut(no));
    }
  }

  private static void staleness() {
    String call = "one of make, put, put if absent, get, get or, remove, clear was called";
    says(call, WalkBoundaries::staleByEach);
    says("of its TABLE", WalkBoundaries::notByAnother);
    says("or copy into it", WalkBoundaries::staleByCopyInto);
    says("without an exception", WalkBoundaries::notByException);
    says("whatever that did (also nothing)", WalkBoundaries::staleByNothing);
    says("a STALE one does nothing any more", WalkBoundaries::staleDoesNothing);
    says("set does not make it STALE", WalkBoundaries::notBySet);
    says("what it comes to is as it is then", WalkBoundaries::asItIsThen);
    Sentences.holds(25, "Returns whether it has a WALK that is STALE", WalkBoundaries::hasStale);
    Sentences.holds(25, "there is no such TABLE", WalkBoundaries::isStaleOfNoTable);
  }

  private static void makesStale(String what, boolean isByAsking, Act act) {
    Lastasked x = Edges.filled(isByAsking, -1, 4);
    x.walk(2, 0);
    x.walk(1, 0);
    x.step(2);
    act.on(x);
    Checks.yes(what, x.isStale(2));
    Checks.no(what + ", hasMore", x.hasMore(2));
    Checks.refused(what + ", step", x, () -> x.step(2));
    Checks.refused(what + ", cut", x, () -> x.cut(2));
    Checks.refused(what + ", rest", x, () -> x.rest(2));
    Checks.no(what + ", of the other table", x.isStale(1));
  }

  private static void staleByEach() {
    for (boolean isByAsking : new boolean[] {false, true}) {
      makesStale("make", isByAsking, x -> x.make(2, true, 5));
      makesStale("put", isByAsking, x -> x.put(2, 9, 9));
      makesStale("putIfAbsent", isByAsking, x -> x.putIfAbsent(2, 9, 9));
      makesStale("get", isByAsking, x -> x.get(2, 1));
      makesStale("getOr", isByAsking, x -> x.getOr(2, 1, 5));
      makesStale("remove", isByAsking, x -> x.remove(2, 1));
      makesStale("clear", isByAsking, x -> x.clear(2));
    }
  }

  private static void staleByNothing() {
    for (boolean isByAsking : new boolean[] {false, true}) {
      makesStale("make, as it was", isByAsking, x -> x.make(2, isByAsking, -1));
      makesStale("put of the last as it was", isByAsking, x -> x.put(2, 4, 40));
      makesStale("putIfAbsent of the last", isByAsking, x -> x.putIfAbsent(2, 4, 1));
      makesStale("get of none", isByAsking, x -> x.get(2, 9));
      makesStale("get of the last", isByAsking, x -> x.get(2, 4));
      makesStale("getOr of none", isByAsking, x -> x.getOr(2, 9, 5));
      makesStale("getOr of the last", isByAsking, x -> x.getOr(2, 4, 5));
      makesStale("remove of none", isByAsking, x -> x.remove(2, 9));
      makesStale("copy into itself", isByAsking, x -> x.copy(2, 2));
    }
    Lastasked x = new Lastasked();
    x.walk(0, 0);
    x.clear(0);
    Checks.yes("clear of an empty one", x.isStale(0));
    x.walk(0, 0);
    x.make(0, false, -1);
    Checks.yes("make of a new one", x.isStale(0));
    x.walk(0, 0);
    x.copy(1, 0);
    Checks.yes("copy of an empty one", x.isStale(0));
    x.walk(0, 0);
    x.get(0, 0);
    Checks.yes("get of an empty one", x.isStale(0));
  }

  private static void staleByCopyInto() {
    for (boolean isByAsking : new boolean[] {false, true}) {
      makesStale("copy into it", isByAsking, x -> x.copy(0, 2));
      makesStale("copy of itself into it", isByAsking, x -> x.copy(2, 2));
    }
    Lastasked x = Edges.four();
    x.walk(2, 0);
    x.walk(1, 0);
    x.copy(2, 1);
    Checks.no("not by a copy out of it", x.isStale(2));
    Checks.yes("the other one is", x.isStale(1));
    Checks.same("it goes on", x.step(2), 1);
  }

  private static void notByAnother() {
    Lastasked x = Edges.four();
    x.walk(2, 0);
    for (int other : new int[] {0, 1, 3}) {
      x.make(other, true, -1);
      x.put(other, 1, 1);
      x.putIfAbsent(other, 1, 1);
      x.get(other, 1);
      x.getOr(other, 1, 1);
      x.remove(other, 1);
      x.clear(other);
      x.copy(2, other);
      Checks.no("by table " + other, x.isStale(2));
    }
    x.ask(1);
    x.askRow(1, 1, 12);
    x.forget();
    x.knock();
    x.walk(1, 0);
    x.step(1);
    x.cut(1);
    Checks.no("by what is not its table's", x.isStale(2));
    Checks.same("it goes on", x.step(2), 1);
  }

  private static void notByException() {
    Lastasked x = Edges.filled(true, 5, 4);
    x.walk(2, 0);
    x.step(2);
    Checks.noArgument("make", x, () -> x.make(2, true, 13));
    Checks.noArgument("put of no key", x, () -> x.put(2, 20, 0));
    Checks.noArgument("put of no value", x, () -> x.put(2, 1, 100));
    Checks.noArgument("putIfAbsent of no key", x, () -> x.putIfAbsent(2, 20, 0));
    Checks.noState("putIfAbsent with a most", x, () -> x.putIfAbsent(2, 1, 0));
    Checks.noArgument("get", x, () -> x.get(2, 20));
    Checks.noArgument("getOr", x, () -> x.getOr(2, 20, 0));
    Checks.noArgument("remove", x, () -> x.remove(2, 20));
    Checks.noPlace("copy", x, () -> x.copy(4, 2));
    Checks.no("stale", x.isStale(2));
    Checks.same("cut", x.cut(2), 3);
    Checks.same("step", x.step(2), 2);
  }

  private static void staleDoesNothing() {
    Lastasked x = Edges.four();
    x.walk(2, 0);
    x.step(2);
    x.put(2, 9, 90);
    x.remove(2, 9);
    Checks.same("the pairs are as they were", x.text(2, 0), "1 2 3 4");
    Checks.yes("stale all the same", x.isStale(2));
    for (int i = 0; i < 3; i++) {
      Checks.refused("step", x, () -> x.step(2));
      Checks.refused("cut", x, () -> x.cut(2));
      Checks.refused("rest", x, () -> x.rest(2));
      Checks.no("hasMore", x.hasMore(2));
    }
    Checks.yes("stale for good", x.isStale(2));
  }

  private static void notBySet() {
    Lastasked x = Edges.four();
    x.walk(2, 0);
    x.step(2);
    x.set(2, 0, 0);
    x.set(2, 1, 20);
    x.set(2, 4, 0);
    Checks.no("stale", x.isStale(2));
    Checks.yes("hasMore", x.hasMore(2));
    Checks.same("cut", x.cut(2), 3);
    x.set(2, 0, 0);
    Checks.same("step", x.step(2), 2);
  }

  private static void asItIsThen() {
    Lastasked x = Edges.four();
    x.walk(2, 1);
    x.set(2, 0, 11);
    Checks.same("set ahead of it", x.step(2), 11);
    x.set(2, 0, 12);
    x.set(2, 1, 21);
    x.set(2, 1, 22);
    Checks.same("set twice", x.step(2), 22);
    x.set(2, 2, 0);
    x.set(2, 3, 99);
    Checks.same("rest", x.rest(2), 99);
    x.walk(2, 2);
    x.set(2, 0, 0);
    Checks.same("a pair", x.step(2), 100);
  }

  private static void hasStale() {
    Lastasked x = Edges.four();
    x.clear(2);
    Checks.no("without a walk", x.isStale(2));
    x.walk(2, 0);
    Checks.no("begun", x.isStale(2));
    x.step(2);
    Checks.no("at its end", x.isStale(2));
    x.put(2, 1, 1);
    Checks.yes("stale", x.isStale(2));
    x.make(2, false, -1);
    Checks.yes("it has it still", x.isStale(2));
    x.walk(2, 0);
    Checks.no("another one", x.isStale(2));
  }

  private static void isStaleOfNoTable() {
    Lastasked x = Edges.four();
    for (int no : Edges.NO_TABLES) {
      Checks.noPlace("table " + no, x, () -> x.isStale(no));
    }
  }

  private static void looks() {
    Sentences.holds(24, "Returns whether a STEP would tell something", WalkBoundaries::wouldTell);
    Sentences.holds(24, "(false without a WALK", WalkBoundaries::noMoreWithoutWalk);
    Sentences.holds(24, "or of a STALE one)", WalkBoundaries::noMoreOfStale);
    Sentences.holds(24, "there is no such TABLE", WalkBoundaries::hasMoreOfNoTable);
  }

  private static void wouldTell() {
    Lastasked x = Edges.allKeys();
    x.walk(2, 0);
    for (int key = 0; key < 20; key++) {
      Checks.yes("ahead of key " + key, x.hasMore(2));
      x.step(2);
    }
    Checks.no("at the end", x.hasMore(2));
    x.cut(2);
    Checks.no("behind a cut at the end", x.hasMore(2));
    x.walk(0, 0);
    Checks.no("of an empty one", x.hasMore(0));
    x.put(0, 1, 1);
    x.walk(0, 0);
    Checks.yes("of one", x.hasMore(0));
    Checks.yes("it changes nothing", x.hasMore(0));
    Checks.same("that one comes", x.step(0), 1);
  }

  private static void noMoreWithoutWalk() {
    Lastasked x = Edges.four();
    Checks.no("with pairs", x.hasMore(2));
    Checks.no("empty", x.hasMore(0));
    Checks.same("no refusal", x.house(3), 0);
  }

  private static void noMoreOfStale() {
    Lastasked x = Edges.four();
    x.walk(2, 0);
    x.get(2, 4);
    Checks.no("with pairs ahead", x.hasMore(2));
    Checks.same("no refusal", x.house(3), 0);
  }

  private static void hasMoreOfNoTable() {
    Lastasked x = Edges.four();
    for (int no : Edges.NO_TABLES) {
      Checks.noPlace("table " + no, x, () -> x.hasMore(no));
    }
  }

  private static void rests() {
    Sentences.holds(26, "The WALK goes on by STEPS to its end", WalkBoundaries::toItsEnd);
    Sentences.holds(26, "Returns the sum of what it came to", WalkBoundaries::sums);
    Sentences.holds(26, "REFUSED without a WALK", WalkBoundaries::restWithoutWalk);
    Sentences.holds(26, "if it is STALE", WalkBoundaries::restOfStale);
    Sentences.holds(26, "there is no such TABLE", WalkBoundaries::restOfNoTable);
  }

  private static void toItsEnd() {
    Lastasked x = Edges.four();
    x.walk(2, 0);
    x.step(2);
    x.cut(2);
    x.rest(2);
    Checks.no("no more", x.hasMore(2));
    Checks.no("not stale", x.isStale(2));
    Checks.same("nothing more", x.step(2), -8);
    Checks.same("as by steps, the last can be cut", x.cut(2), 2);
    Checks.same("pairs", x.text(2, 0), "2 3");
    x.rest(2);
    Checks.refused("a rest without a step is none", x, () -> x.cut(2));
    x.walk(0, 0);
    x.rest(0);
    Checks.refused("nor is that of an empty one", x, () -> x.cut(0));
  }

  private static void sums() {
    int[] due = {190, 1980, 20980};
    for (int what = 0; what <= 2; what++) {
      Lastasked x = Edges.allKeys();
      x.walk(2, what);
      Checks.same("all of kind " + what, x.rest(2), due[what]);
      Checks.same("nothing more of kind " + what, x.rest(2), 0);
    }
    Lastasked y = Edges.four();
    y.walk(0, 2);
    Checks.same("of an empty one", y.rest(0), 0);
    y.walk(2, 0);
    y.step(2);
    y.step(2);
    y.step(2);
    Checks.same("only the last one", y.rest(2), 4);
    Checks.same("no refusal", y.house(3), 0);
  }

  private static void restWithoutWalk() {
    Lastasked x = Edges.four();
    Checks.refused("with pairs", x, () -> x.rest(2));
    Checks.refused("empty", x, () -> x.rest(0));
  }

  private static void restOfStale() {
    Lastasked x = Edges.four();
    x.walk(2, 0);
    x.remove(2, 9);
    Checks.refused("with pairs ahead", x, () -> x.rest(2));
    x.walk(0, 0);
    x.clear(0);
    Checks.refused("of an empty one", x, () -> x.rest(0));
  }

  private static void restOfNoTable() {
    Lastasked x = Edges.four();
    for (int no : Edges.NO_TABLES) {
      Checks.noPlace("table " + no, x, () -> x.rest(no));
    }
  }
}

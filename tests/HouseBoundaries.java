import java.math.BigInteger;
import java.util.Arrays;

/** The edges that promises 43 to 46 name, and that of an object's 512 calls. */
final class HouseBoundaries {
  private static final int CALLS = 512;

  private HouseBoundaries() {}

  static void all() {
    houses();
    knocks();
    soundness();
    digests();
    fiveHundredAndTwelveCalls();
  }

  private static void houses() {
    Sentences.holds(43, "0 PAIRS of the TABLES 0 to 3", HouseBoundaries::pairs);
    Sentences.holds(43, "1 ASKINGS", HouseBoundaries::askings);
    Sentences.holds(43, "2 KEYS on the STACK", HouseBoundaries::onStack);
    Sentences.holds(43, "3 how often REFUSED was told", HouseBoundaries::refusals);
    Sentences.holds(43, "4 how often one knocked", HouseBoundaries::knocked);
    Sentences.holds(43, "what is not 0 to 4", HouseBoundaries::houseOfNoKind);
  }

  private static void pairs() {
    Lastasked x = Edges.allKeys();
    for (int into : new int[] {0, 1, 3}) {
      x.copy(2, into);
    }
    Checks.same("all keys in all tables", x.house(0), 80);
    x.clear(0);
    Checks.same("less the first table", x.house(0), 60);
    x.clear(3);
    Checks.same("less the last table", x.house(0), 40);
    x.askRow(0, 1, 12);
    Checks.same("not those of stack and keepers", x.house(0), 40);
    x.clear(1);
    x.clear(2);
    Checks.same("none", x.house(0), 0);
    Checks.same("new", new Lastasked().house(0), 0);
  }

  private static void askings() {
    Lastasked x = new Lastasked();
    Checks.same("none", x.house(1), 0);
    x.ask(0);
    x.ask(0);
    Checks.same("two of one key", x.house(1), 2);
    Checks.same("60", Edges.rounds(60).house(1), 60);
    x.forget();
    Checks.same("forgotten", x.house(1), 0);
  }

  private static void onStack() {
    Lastasked x = new Lastasked();
    Checks.same("none", x.house(2), 0);
    x.ask(0);
    x.ask(0);
    Checks.same("one key, asked twice", x.house(2), 1);
    Checks.same("all keys", Edges.rounds(60).house(2), 20);
    x.forget();
    Checks.same("forgotten", x.house(2), 0);
  }

  private static void refusals() {
    Lastasked x = new Lastasked();
    Checks.same("none", x.house(3), 0);
    x.step(0);
    x.step(0);
    x.cut(3);
    Checks.same("each time", x.house(3), 3);
    x.walk(0, 0);
    x.step(0);
    Checks.same("not by -8", x.house(3), 3);
    x.getOr(0, 0, -9);
    Checks.same("not by any other -9", x.house(3), 3);
    Checks.noPlace("nor by an exception", x, () -> x.step(4));
    x.forget();
    x.clear(0);
    x.make(0, false, -1);
    Checks.same("it stays", x.house(3), 3);
  }

  private static void knocked() {
    Lastasked x = new Lastasked();
    Checks.same("none", x.house(4), 0);
    x.knock();
    Checks.same("one", x.house(4), 1);
    x.forget();
    x.step(0);
    Checks.same("it stays", x.house(4), 1);
  }

  private static void houseOfNoKind() {
    Lastasked x = Edges.rounds(7);
    for (int no : Edges.NO_FIVE) {
      Checks.noArgument("what " + no, x, () -> x.house(no));
    }
  }

  private static void knocks() {
    Sentences.holds(44, "Returns how often one knocked, with this", HouseBoundaries::withThis);
  }

  private static void withThis() {
    Lastasked x = new Lastasked();
    Checks.same("the first", x.knock(), 1);
    Checks.same("the second", x.knock(), 2);
    Checks.same("another object's first", new Lastasked().knock(), 1);
    Checks.same("the third", x.knock(), 3);
  }

  private static void soundness() {
    Sentences.holds(45, "no TABLE has more PAIRS than its MOST", HouseBoundaries::withinMost);
    Sentences.holds(45, "each KEEPER of the size c holds the last c KEYS of the STACK,"
        + " in the same sequence", HouseBoundaries::lastOfStack);
    Sentences.holds(45, "its misses are the ASKINGS whose DEPTH is 0 or above c",
        HouseBoundaries::missesByDepth);
    Sentences.holds(45, "no BEST is above the misses of the same size",
        HouseBoundaries::bestWithinMisses);
    Sentences.holds(45, "misses and BEST do not grow with the size", HouseBoundaries::noneGrows);
    Sentences.holds(45, "and what the THEOREM tells of misses and BEST for each c and k up to c",
        HouseBoundaries::theorem);
  }

  /** Objects whose askings stand at an edge: none, one, full, one key, all keys, many hits. */
  private static Lastasked[] manifold() {
    Lastasked oneKey = new Lastasked();
    Lastasked toAndFro = new Lastasked();
    for (int i = 0; i < 5; i++) {
      oneKey.askRow(0, 0, 12);
      toAndFro.askRow(i, 3 + 4 * i, 12);
    }
    Lastasked sevenKeys = new Lastasked();
    for (int nth = 0; nth < 60; nth++) {
      sevenKeys.ask(nth * nth % 11);
    }
    Lastasked forgotten = Edges.rounds(60);
    forgotten.forget();
    return new Lastasked[] {new Lastasked(), Edges.asking(19), Edges.rounds(6), Edges.rounds(7),
        Edges.rounds(20), Edges.rounds(60), oneKey, toAndFro, sevenKeys, forgotten};
  }

  private static void withinMost() {
    for (int most = 1; most <= 12; most++) {
      Lastasked x = Edges.filled(true, most, most);
      Checks.yes("just full", x.isSound());
      x.put(2, 0, 0);
      Checks.yes("behind one more", x.isSound());
      Checks.same("not more", x.size(2), most);
    }
    Lastasked y = Edges.allKeys();
    Checks.yes("all keys without a most", y.isSound());
    Checks.yes("new", new Lastasked().isSound());
  }

  private static void lastOfStack() {
    for (Lastasked x : manifold()) {
      Checks.yes("sound", x.isSound());
      for (int size = 1; size <= 6; size++) {
        String[] keys = x.stack().split(" ");
        int from = Math.max(0, keys.length - size);
        String due = String.join(" ", Arrays.copyOfRange(keys, from, keys.length));
        Checks.same("keeper " + size, x.kept(size), due);
      }
    }
  }

  private static void missesByDepth() {
    for (Lastasked x : manifold()) {
      Checks.yes("sound", x.isSound());
      for (int size = 1; size <= 6; size++) {
        int due = x.withDepth(0);
        for (int depth = size + 1; depth <= 20; depth++) {
          due += x.withDepth(depth);
        }
        Checks.same("size " + size, x.misses(size), due);
      }
    }
  }

  private static void bestWithinMisses() {
    for (Lastasked x : manifold()) {
      Checks.yes("sound", x.isSound());
      for (int size = 1; size <= 6; size++) {
        Checks.yes("size " + size, x.best(size) <= x.misses(size));
      }
    }
  }

  private static void noneGrows() {
    for (Lastasked x : manifold()) {
      Checks.yes("sound", x.isSound());
      for (int size = 2; size <= 6; size++) {
        Checks.yes("misses of " + size, x.misses(size) <= x.misses(size - 1));
        Checks.yes("best of " + size, x.best(size) <= x.best(size - 1));
      }
    }
  }

  private static void theorem() {
    for (Lastasked x : manifold()) {
      Checks.yes("sound", x.isSound());
      for (int c = 1; c <= 6; c++) {
        for (int k = 1; k <= c; k++) {
          Checks.yes(c + " and " + k, x.misses(c) * (c - k + 1) <= x.best(k) * c);
        }
      }
    }
  }

  private static void digests() {
    Sentences.holds(46, "A number d starts with 7808", HouseBoundaries::digestOfEmpty);
    Sentences.holds(46, "which wraps around as a 64-bit integer", HouseBoundaries::wrapsAround);
    Sentences.holds(46, "house() of 0 to 4", HouseBoundaries::digestOfHouse);
    Sentences.holds(46, "TABLE by TABLE ofTable() of 0 to 4, pairAt() of each place",
        HouseBoundaries::digestOfTables);
    Sentences.holds(46, "1 if hasMore(), 1 if isStale(), otherwise 0",
        HouseBoundaries::digestOfWalks);
    Sentences.holds(46, "ASKING by ASKING its KEY and DEPTH", HouseBoundaries::digestOfAskings);
    Sentences.holds(46, "the KEYS of the STACK", HouseBoundaries::digestOfAskings);
    Sentences.holds(46, "size by size misses(), best(), lost(), KEY by KEY takenAt()",
        HouseBoundaries::digestOfAskings);
    Sentences.holds(46, "1 if isSound(), otherwise 0", HouseBoundaries::digestOfEmpty);
  }

  /** The digest as the document tells it, without a wrap-around, from what the object answers. */
  static BigInteger told(Lastasked x) {
    BigInteger d = BigInteger.valueOf(7808);
    for (int what = 0; what <= 4; what++) {
      d = mixed(d, x.house(what));
    }
    for (int table = 0; table < 4; table++) {
      for (int what = 0; what <= 4; what++) {
        d = mixed(d, x.ofTable(table, what));
      }
      for (int place = 0, size = x.size(table); place < size; place++) {
        d = mixed(d, x.pairAt(table, place));
      }
      d = mixed(d, x.hasMore(table) ? 1 : 0);
      d = mixed(d, x.isStale(table) ? 1 : 0);
    }
    for (int nth = 0, asked = x.asked(); nth < asked; nth++) {
      d = mixed(mixed(d, x.askedAt(nth)), x.depthAt(nth));
    }
    for (String key : x.stack().split(" ")) {
      d = key.isEmpty() ? d : mixed(d, Integer.parseInt(key));
    }
    for (int size = 1; size <= 6; size++) {
      d = mixed(mixed(mixed(d, x.misses(size)), x.best(size)), x.lost(size));
      for (int key = 0; key < 20; key++) {
        d = mixed(d, x.takenAt(size, key));
      }
    }
    return mixed(d, x.isSound() ? 1 : 0);
  }

  private static BigInteger mixed(BigInteger d, int v) {
    return d.multiply(BigInteger.valueOf(31)).add(BigInteger.valueOf(v));
  }

  private static void digestIsAsTold(String what, Lastasked x) {
    // BigInteger's longValue keeps the last 64 bits, as the document's wrap-around does.
    Checks.same(what, x.digest(), told(x).longValue());
  }

  private static void digestOfEmpty() {
    Lastasked x = new Lastasked();
    digestIsAsTold("new", x);
    Checks.same("a new one's number", x.digest(), new Lastasked().digest());
    Checks.same("it changes nothing", x.digest(), x.digest());
  }

  private static void wrapsAround() {
    Lastasked x = Edges.allKeys();
    x.copy(2, 0);
    x.copy(2, 3);
    for (int i = 0; i < 5; i++) {
      x.askRow(i, 7, 12);
    }
    BigInteger whole = told(x);
    Checks.yes("far beyond 64 bits", whole.bitLength() > 1000);
    Checks.same("its last 64 bits", x.digest(), whole.longValue());
  }

  private static void digestOfHouse() {
    Lastasked x = Edges.four();
    for (int i = 1; i <= 3; i++) {
      x.knock();
    }
    x.step(2);
    x.step(2);
    digestIsAsTold("knocks and refusals", x);
    Lastasked y = new Lastasked();
    Lastasked z = new Lastasked();
    y.knock();
    z.step(0);
    Checks.no("a knock is no refusal", y.digest() == z.digest());
  }

  private static void digestOfTables() {
    Lastasked x = Edges.filled(true, 12, 19);
    x.make(0, false, 1);
    x.put(0, 0, 0);
    x.put(0, 19, 99);
    x.put(3, 5, 50);
    digestIsAsTold("one empty, one full, one of one pair", x);
    Checks.same("pairs", x.house(0), 14);
  }

  private static void digestOfWalks() {
    Lastasked x = Edges.four();
    x.copy(2, 1);
    x.copy(2, 3);
    x.walk(1, 0);
    x.walk(2, 1);
    x.walk(3, 2);
    x.rest(2);
    x.get(3, 9);
    digestIsAsTold("none, one with more, one at its end, one stale", x);
    Lastasked y = Edges.four();
    Lastasked z = Edges.four();
    y.walk(2, 0);
    Checks.no("more or none", y.digest() == z.digest());
    z.walk(2, 0);
    Checks.same("as much", y.digest(), z.digest());
    z.get(2, 9);
    Checks.no("stale or not", y.digest() == z.digest());
  }

  private static void digestOfAskings() {
    digestIsAsTold("one", Edges.asking(19));
    digestIsAsTold("all keys", Edges.rounds(20));
    digestIsAsTold("60", Edges.rounds(60));
    digestIsAsTold("hits and misses", Edges.asking(3, 4, 3, 5, 6, 4, 7, 8, 9, 3, 3, 0));
    Lastasked x = Edges.rounds(60);
    x.forget();
    digestIsAsTold("forgotten", x);
  }

  private static void fiveHundredAndTwelveCalls() {
    Lastasked x = new Lastasked();
    for (int call = 1; call <= CALLS; call++) {
      Checks.same("call " + call + ": knock", x.knock(), call);
    }
    Lastasked y = new Lastasked();
    for (int call = 1; call < CALLS; call++) {
      Checks.same("call " + call + ": step", y.step(0), -9);
    }
    Checks.same("all refusals are counted", y.house(3), CALLS - 1);
    Lastasked z = new Lastasked();
    z.make(0, true, 1);
    for (int call = 2; call < CALLS; call++) {
      z.put(0, call % 20, call % 100);
    }
    Checks.same("all that were lost are counted", z.ofTable(0, 2), CALLS - 3);
    Lastasked w = new Lastasked();
    for (int call = 1; call <= CALLS; call++) {
      int asked = w.asked();
      call++;
      Checks.same("call " + call + ": ask or forget", asked == 60 ? w.forget() : w.ask(7),
          asked == 60 ? 60 : asked == 0 ? 0 : 6);
    }
  }
}

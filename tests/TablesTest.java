/** Promises 1 to 20: a new object, and the tables that are changed freely. */
public final class TablesTest {
  private static final int[] NO_TABLES = {-1, 4, Integer.MIN_VALUE, Integer.MAX_VALUE};
  private static final int[] NO_KEYS = {-1, 20, Integer.MIN_VALUE, Integer.MAX_VALUE};
  private static final int[] NO_VALUES = {-1, 100, Integer.MIN_VALUE, Integer.MAX_VALUE};
  private static final int[] NO_PLACES = {-1, 3, 20, Integer.MIN_VALUE, Integer.MAX_VALUE};

  public static void main(String[] args) {
    promise1New();
    promise2Make();
    promise2MakeWrong();
    promise3Put();
    promise3PutWithMost();
    promise3PutWrong();
    promise4PutIfAbsent();
    promise4PutIfAbsentWrong();
    promises5And6Get();
    promises5And6GetWrong();
    promise7Remove();
    promise8Clear();
    promise9Set();
    promise10Copy();
    promise11Has();
    promise12Size();
    promises13To15Places();
    promise16PlaceOf();
    promises17And18Ends();
    promise19Text();
    promise20OfTable();
    Checks.end();
  }

  /** Table 0 holds 3=30 1=10 2=20, in this sequence. */
  private static Lastasked three(boolean isByAsking, int most) {
    Lastasked x = new Lastasked();
    x.make(0, isByAsking, most);
    x.put(0, 3, 30);
    x.put(0, 1, 10);
    x.put(0, 2, 20);
    return x;
  }

  private static void promise1New() {
    Lastasked x = new Lastasked();
    for (int table = 0; table < 4; table++) {
      Checks.same("new: size", x.size(table), 0);
      Checks.same("new: kind", x.ofTable(table, 0), 0);
      Checks.same("new: most", x.ofTable(table, 1), -1);
      Checks.same("new: lost many", x.ofTable(table, 2), 0);
      Checks.same("new: lost last", x.ofTable(table, 3), -1);
      Checks.same("new: sum", x.ofTable(table, 4), 0);
      Checks.no("new: more", x.hasMore(table));
      Checks.no("new: stale", x.isStale(table));
    }
    Checks.same("new: stack", x.stack(), "");
    Checks.same("new: asked", x.asked(), 0);
    for (int size = 1; size <= 6; size++) {
      Checks.same("new: kept", x.kept(size), "");
      Checks.same("new: misses", x.misses(size), 0);
      Checks.same("new: hits", x.hits(size), 0);
      Checks.same("new: lost", x.lost(size), -1);
    }
    Lastasked other = new Lastasked();
    other.put(0, 1, 1);
    other.ask(1);
    Checks.same("new: of its own", x.house(0) + x.house(1), 0);
  }

  private static void promise2Make() {
    Lastasked x = three(false, 2);
    Checks.same("make: pairs before", x.make(0, true, 12), 2);
    Checks.same("make: empty", x.text(0, 2), "");
    Checks.same("make: by asking", x.ofTable(0, 0), 1);
    Checks.same("make: most", x.ofTable(0, 1), 12);
    Checks.same("make: lost many anew", x.ofTable(0, 2), 0);
    Checks.same("make: lost last anew", x.ofTable(0, 3), -1);
    Checks.same("make: of an empty one", x.make(0, false, 1), 0);
    Checks.same("make: by putting", x.ofTable(0, 0), 0);
    Checks.same("make: the least most", x.ofTable(0, 1), 1);
    Checks.same("make: without most", x.make(3, true, -1), 0);
    for (int key = 0; key < 20; key++) {
      x.put(3, key, 99);
    }
    Checks.same("make: all keys", x.make(3, false, -1), 20);
    Checks.same("make: no most told", x.ofTable(3, 1), -1);
  }

  private static void promise2MakeWrong() {
    Lastasked x = three(true, 5);
    for (int no : NO_TABLES) {
      Checks.noPlace("make of table " + no, x, () -> x.make(no, false, 3));
      Checks.noPlace("make of table " + no + ", both wrong", x, () -> x.make(no, false, 0));
    }
    for (int no : new int[] {0, 13, -2, Integer.MIN_VALUE, Integer.MAX_VALUE}) {
      Checks.noArgument("make with most " + no, x, () -> x.make(0, false, no));
    }
  }

  private static void promise3Put() {
    Lastasked x = three(false, -1);
    Checks.same("put: text", x.text(0, 2), "3=30 1=10 2=20");
    Checks.same("put: value before", x.put(0, 3, 99), 30);
    Checks.same("put: stays by putting", x.text(0, 2), "3=99 1=10 2=20");
    Checks.same("put: new one", x.put(0, 0, 0), -1);
    Checks.same("put: edges", x.put(0, 19, 99), -1);
    Checks.same("put: at the end", x.text(0, 2), "3=99 1=10 2=20 0=0 19=99");
    Checks.same("put: value 0 before", x.put(0, 0, 5), 0);
    Checks.same("put: others untouched", x.size(1) + x.size(2) + x.size(3), 0);

    Lastasked y = three(true, -1);
    Checks.same("put by asking: value before", y.put(0, 3, 31), 30);
    Checks.same("put by asking: goes to the end", y.text(0, 2), "1=10 2=20 3=31");
    Checks.same("put by asking: the last one", y.put(0, 3, 32), 31);
    Checks.same("put by asking: stays the last", y.text(0, 2), "1=10 2=20 3=32");
  }

  private static void promise3PutWithMost() {
    Lastasked x = three(false, 3);
    Checks.same("put: full", x.text(0, 0), "3 1 2");
    Checks.same("put: one over", x.put(0, 7, 70), -1);
    Checks.same("put: the first goes", x.text(0, 2), "1=10 2=20 7=70");
    Checks.same("put: one is lost", x.ofTable(0, 2), 1);
    Checks.same("put: which is lost", x.ofTable(0, 3), 3);
    Checks.same("put: there at most", x.put(0, 1, 11), 10);
    Checks.same("put: none is lost by that", x.ofTable(0, 2), 1);
    Checks.same("put: the first though changed", x.put(0, 3, 33), -1);
    Checks.same("put: text then", x.text(0, 2), "2=20 7=70 3=33");

    Lastasked y = three(true, 3);
    y.put(0, 3, 31);
    y.put(0, 8, 80);
    Checks.same("put by asking: the eldest goes", y.text(0, 2), "2=20 3=31 8=80");
    Checks.same("put by asking: lost", y.ofTable(0, 3), 1);

    Lastasked z = three(false, 1);
    Checks.same("put: most 1", z.text(0, 2), "2=20");
    Checks.same("put: most 1 lost", z.ofTable(0, 2), 2);
    Checks.same("put: most 1 lost last", z.ofTable(0, 3), 1);
    z.make(1, true, 12);
    for (int key = 0; key < 20; key++) {
      z.put(1, key, key);
    }
    Checks.same("put: most 12", z.text(1, 0), "8 9 10 11 12 13 14 15 16 17 18 19");
    Checks.same("put: most 12 lost", z.ofTable(1, 2), 8);
  }

  private static void promise3PutWrong() {
    Lastasked x = three(true, 3);
    for (int no : NO_TABLES) {
      Checks.noPlace("put into table " + no, x, () -> x.put(no, 1, 1));
      Checks.noPlace("put into table " + no + ", all wrong", x, () -> x.put(no, -1, 100));
    }
    for (int no : NO_KEYS) {
      Checks.noArgument("put of key " + no, x, () -> x.put(0, no, 1));
    }
    for (int no : NO_VALUES) {
      Checks.noArgument("put of value " + no, x, () -> x.put(0, 3, no));
    }
  }

  private static void promise4PutIfAbsent() {
    Lastasked x = three(false, -1);
    Checks.same("putIfAbsent: there", x.putIfAbsent(0, 3, 99), 30);
    Checks.same("putIfAbsent: nothing put", x.text(0, 2), "3=30 1=10 2=20");
    Checks.same("putIfAbsent: absent", x.putIfAbsent(0, 19, 0), -1);
    Checks.same("putIfAbsent: at the end", x.text(0, 2), "3=30 1=10 2=20 19=0");
    Checks.same("putIfAbsent: a value 0", x.putIfAbsent(0, 19, 7), 0);

    Lastasked y = three(true, -1);
    Checks.same("putIfAbsent by asking: there", y.putIfAbsent(0, 1, 99), 10);
    Checks.same("putIfAbsent by asking: to the end", y.text(0, 2), "3=30 2=20 1=10");
    Checks.same("putIfAbsent by asking: absent", y.putIfAbsent(0, 4, 40), -1);
    Checks.same("putIfAbsent by asking: text", y.text(0, 2), "3=30 2=20 1=10 4=40");
  }

  private static void promise4PutIfAbsentWrong() {
    Lastasked x = three(true, 3);
    x.walk(0, 0);
    Checks.noState("putIfAbsent with most", x, () -> x.putIfAbsent(0, 4, 4));
    Checks.noState("putIfAbsent with most, there", x, () -> x.putIfAbsent(0, 3, 4));
    for (int no : NO_TABLES) {
      Checks.noPlace("putIfAbsent into table " + no, x, () -> x.putIfAbsent(no, 1, 1));
      Checks.noPlace("putIfAbsent into table " + no + ", wrong", x, () -> x.putIfAbsent(no, 20, 1));
    }
    for (int no : NO_KEYS) {
      Checks.noArgument("putIfAbsent of key " + no, x, () -> x.putIfAbsent(0, no, 1));
      Checks.noArgument("putIfAbsent of key " + no, x, () -> x.putIfAbsent(1, no, 1));
    }
    for (int no : NO_VALUES) {
      Checks.noArgument("putIfAbsent of value " + no, x, () -> x.putIfAbsent(0, 3, no));
      Checks.noArgument("putIfAbsent of value " + no, x, () -> x.putIfAbsent(1, 3, no));
    }
  }

  private static void promises5And6Get() {
    Lastasked x = three(false, -1);
    Checks.same("get", x.get(0, 3), 30);
    Checks.same("get: not there", x.get(0, 4), -1);
    Checks.same("get: stays by putting", x.text(0, 2), "3=30 1=10 2=20");
    Checks.same("getOr", x.getOr(0, 3, 50), 30);
    Checks.same("getOr: not there", x.getOr(0, 4, 50), 50);
    Checks.same("getOr: the least", x.getOr(0, 4, Integer.MIN_VALUE), Integer.MIN_VALUE);
    Checks.same("getOr: the greatest", x.getOr(0, 4, Integer.MAX_VALUE), Integer.MAX_VALUE);
    Checks.same("getOr: like refused", x.getOr(0, 4, -9), -9);
    Checks.same("getOr: is no refusal", x.house(3), 0);
    Checks.same("getOr: stays by putting", x.text(0, 2), "3=30 1=10 2=20");

    Lastasked y = three(true, 3);
    Checks.same("get by asking", y.get(0, 3), 30);
    Checks.same("get by asking: to the end", y.text(0, 2), "1=10 2=20 3=30");
    Checks.same("getOr by asking", y.getOr(0, 2, 1), 20);
    Checks.same("getOr by asking: to the end", y.text(0, 2), "1=10 3=30 2=20");
    Checks.same("get by asking: not there", y.get(0, 0), -1);
    Checks.same("getOr by asking: not there", y.getOr(0, 0, 1), 1);
    Checks.same("get by asking: no change then", y.text(0, 2), "1=10 3=30 2=20");
  }

  private static void promises5And6GetWrong() {
    Lastasked x = three(true, 3);
    for (int no : NO_TABLES) {
      Checks.noPlace("get of table " + no, x, () -> x.get(no, 1));
      Checks.noPlace("get of table " + no + ", both wrong", x, () -> x.get(no, 20));
      Checks.noPlace("getOr of table " + no, x, () -> x.getOr(no, 1, 1));
      Checks.noPlace("getOr of table " + no + ", both wrong", x, () -> x.getOr(no, 20, 1));
    }
    for (int no : NO_KEYS) {
      Checks.noArgument("get of key " + no, x, () -> x.get(0, no));
      Checks.noArgument("getOr of key " + no, x, () -> x.getOr(0, no, 1));
    }
  }

  private static void promise7Remove() {
    Lastasked x = three(false, -1);
    Checks.same("remove: the first", x.remove(0, 3), 30);
    Checks.same("remove: text", x.text(0, 2), "1=10 2=20");
    Checks.same("remove: not there", x.remove(0, 3), -1);
    Checks.same("remove: the last", x.remove(0, 2), 20);
    Checks.same("remove: text", x.text(0, 2), "1=10");
    Checks.same("remove: is not lost", x.ofTable(0, 2), 0);
    x.put(0, 3, 0);
    Checks.same("remove: comes back at the end", x.text(0, 2), "1=10 3=0");
    Checks.same("remove: a value 0", x.remove(0, 3), 0);
    for (int no : NO_TABLES) {
      Checks.noPlace("remove of table " + no, x, () -> x.remove(no, 1));
      Checks.noPlace("remove of table " + no + ", both wrong", x, () -> x.remove(no, -1));
    }
    for (int no : NO_KEYS) {
      Checks.noArgument("remove of key " + no, x, () -> x.remove(0, no));
    }
  }

  private static void promise8Clear() {
    Lastasked x = three(true, 2);
    Checks.same("clear", x.clear(0), 2);
    Checks.same("clear: empty", x.text(0, 2), "");
    Checks.same("clear: again", x.clear(0), 0);
    Checks.same("clear: keeps the kind", x.ofTable(0, 0), 1);
    Checks.same("clear: keeps the most", x.ofTable(0, 1), 2);
    Checks.same("clear: keeps what was lost", x.ofTable(0, 2), 1);
    Checks.same("clear: keeps which was lost", x.ofTable(0, 3), 3);
    Checks.same("clear: holds none of them", x.get(0, 1), -1);
    for (int no : NO_TABLES) {
      Checks.noPlace("clear of table " + no, x, () -> x.clear(no));
    }
  }

  private static void promise9Set() {
    Lastasked x = three(true, -1);
    Checks.same("set: the first", x.set(0, 0, 31), 30);
    Checks.same("set: the last", x.set(0, 2, 0), 20);
    Checks.same("set: stays", x.text(0, 2), "3=31 1=10 2=0");
    Checks.same("set: the value before", x.set(0, 0, 99), 31);
    int refusals = 0;
    for (int no : NO_PLACES) {
      Checks.same("set: place " + no, x.set(0, no, 5), -9);
      refusals++;
      Checks.same("set: refusals", x.house(3), refusals);
    }
    Checks.same("set: of an empty one", x.set(1, 0, 5), -9);
    Checks.same("set: nothing changed", x.text(0, 2), "3=99 1=10 2=0");
    for (int no : NO_TABLES) {
      Checks.noPlace("set of table " + no, x, () -> x.set(no, 0, 1));
      Checks.noPlace("set of table " + no + ", all wrong", x, () -> x.set(no, -1, 100));
    }
    for (int no : NO_VALUES) {
      Checks.noArgument("set of value " + no, x, () -> x.set(0, 0, no));
      Checks.noArgument("set of value " + no + " without place", x, () -> x.set(0, 9, no));
    }
  }

  private static void promise10Copy() {
    Lastasked x = three(true, 3);
    x.put(0, 5, 50);
    x.put(1, 9, 90);
    Checks.same("copy", x.copy(0, 1), 3);
    Checks.same("copy: pairs", x.text(1, 2), "1=10 2=20 5=50");
    Checks.same("copy: by putting", x.ofTable(1, 0), 0);
    Checks.same("copy: without most", x.ofTable(1, 1), -1);
    Checks.same("copy: nothing lost", x.ofTable(1, 2), 0);
    Checks.same("copy: none lost last", x.ofTable(1, 3), -1);
    Checks.same("copy: the other stays by asking", x.ofTable(0, 0), 1);
    Checks.same("copy: the other keeps its most", x.ofTable(0, 1), 3);
    Checks.same("copy: the other keeps its lost", x.ofTable(0, 3), 3);
    x.put(1, 1, 99);
    x.put(1, 7, 7);
    Checks.same("copy: on its own", x.text(0, 2), "1=10 2=20 5=50");
    Checks.same("copy: goes on", x.text(1, 2), "1=99 2=20 5=50 7=7");
    Checks.same("copy: of itself", x.copy(0, 0), 3);
    Checks.same("copy: of itself, pairs", x.text(0, 2), "1=10 2=20 5=50");
    Checks.same("copy: of itself, by putting", x.ofTable(0, 0), 0);
    Checks.same("copy: of itself, without most", x.ofTable(0, 1), -1);
    Checks.same("copy: of itself, nothing lost", x.ofTable(0, 2), 0);
    Checks.same("copy: of itself, none lost last", x.ofTable(0, 3), -1);
    Checks.same("copy: of an empty one", x.copy(2, 1), 0);
    Checks.same("copy: empty then", x.text(1, 0), "");
    for (int key = 0; key < 20; key++) {
      x.put(2, key, key);
    }
    Checks.same("copy: of all keys", x.copy(2, 1), 20);
    Checks.same("copy: the last of all keys", x.pairAt(1, 19), 1919);
    Checks.same("copy: of all keys, of itself", x.copy(1, 1), 20);
    Checks.same("copy: the same then", x.text(1, 2), x.text(2, 2));
    for (int no : NO_TABLES) {
      Checks.noPlace("copy of table " + no, x, () -> x.copy(no, 0));
      Checks.noPlace("copy into table " + no, x, () -> x.copy(0, no));
      Checks.noPlace("copy of and into table " + no, x, () -> x.copy(no, no));
    }
  }

  private static void promise11Has() {
    Lastasked x = three(true, -1);
    Checks.yes("has", x.has(0, 3));
    Checks.no("has: not there", x.has(0, 0));
    Checks.no("has: of another", x.has(1, 3));
    Checks.same("has: changes nothing", x.text(0, 2), "3=30 1=10 2=20");
    x.remove(0, 3);
    Checks.no("has: no longer", x.has(0, 3));
    for (int no : NO_TABLES) {
      Checks.noPlace("has of table " + no, x, () -> x.has(no, 1));
      Checks.noPlace("has of table " + no + ", both wrong", x, () -> x.has(no, 20));
    }
    for (int no : NO_KEYS) {
      Checks.noArgument("has of key " + no, x, () -> x.has(0, no));
    }
  }

  private static void promise12Size() {
    Lastasked x = three(true, 3);
    Checks.same("size", x.size(0), 3);
    x.put(0, 9, 9);
    Checks.same("size: at most", x.size(0), 3);
    x.remove(0, 9);
    Checks.same("size: one less", x.size(0), 2);
    Checks.same("size: empty", x.size(3), 0);
    for (int no : NO_TABLES) {
      Checks.noPlace("size of table " + no, x, () -> x.size(no));
    }
  }

  private static void promises13To15Places() {
    Lastasked x = three(true, -1);
    Checks.same("keyAt: first", x.keyAt(0, 0), 3);
    Checks.same("keyAt: last", x.keyAt(0, 2), 2);
    Checks.same("valueAt: first", x.valueAt(0, 0), 30);
    Checks.same("valueAt: last", x.valueAt(0, 2), 20);
    Checks.same("pairAt: first", x.pairAt(0, 0), 330);
    Checks.same("pairAt: last", x.pairAt(0, 2), 220);
    x.put(1, 0, 0);
    x.put(1, 19, 99);
    Checks.same("pairAt: the least", x.pairAt(1, 0), 0);
    Checks.same("pairAt: the greatest", x.pairAt(1, 1), 1999);
    for (int no : NO_PLACES) {
      Checks.same("keyAt: place " + no, x.keyAt(0, no), -1);
      Checks.same("valueAt: place " + no, x.valueAt(0, no), -1);
      Checks.same("pairAt: place " + no, x.pairAt(0, no), -1);
    }
    x.clear(0);
    Checks.same("keyAt: none left", x.keyAt(0, 0), -1);
    Checks.same("valueAt: none left", x.valueAt(0, 0), -1);
    Checks.same("pairAt: none left", x.pairAt(0, 0), -1);
    Checks.same("places: no refusal", x.house(3), 0);
    for (int no : NO_TABLES) {
      Checks.noPlace("keyAt of table " + no, x, () -> x.keyAt(no, 0));
      Checks.noPlace("valueAt of table " + no, x, () -> x.valueAt(no, 0));
      Checks.noPlace("pairAt of table " + no, x, () -> x.pairAt(no, 0));
    }
  }

  private static void promise16PlaceOf() {
    Lastasked x = three(true, -1);
    Checks.same("placeOf: first", x.placeOf(0, 3), 0);
    Checks.same("placeOf: last", x.placeOf(0, 2), 2);
    Checks.same("placeOf: not there", x.placeOf(0, 0), -1);
    Checks.same("placeOf: changes nothing", x.text(0, 0), "3 1 2");
    x.get(0, 3);
    Checks.same("placeOf: behind a get", x.placeOf(0, 3), 2);
    for (int no : NO_TABLES) {
      Checks.noPlace("placeOf of table " + no, x, () -> x.placeOf(no, 1));
      Checks.noPlace("placeOf of table " + no + ", both wrong", x, () -> x.placeOf(no, 20));
    }
    for (int no : NO_KEYS) {
      Checks.noArgument("placeOf of key " + no, x, () -> x.placeOf(0, no));
    }
  }

  private static void promises17And18Ends() {
    Lastasked x = three(true, -1);
    Checks.same("eldest", x.eldest(0), 3);
    Checks.same("latest", x.latest(0), 2);
    x.get(0, 3);
    Checks.same("eldest: behind a get", x.eldest(0), 1);
    Checks.same("latest: behind a get", x.latest(0), 3);
    Checks.same("eldest: without", x.eldest(1), -1);
    Checks.same("latest: without", x.latest(1), -1);
    x.put(1, 0, 5);
    Checks.same("eldest: of one", x.eldest(1), 0);
    Checks.same("latest: of one", x.latest(1), 0);
    for (int no : NO_TABLES) {
      Checks.noPlace("eldest of table " + no, x, () -> x.eldest(no));
      Checks.noPlace("latest of table " + no, x, () -> x.latest(no));
    }
  }

  private static void promise19Text() {
    Lastasked x = three(true, -1);
    Checks.same("text: keys", x.text(0, 0), "3 1 2");
    Checks.same("text: values", x.text(0, 1), "30 10 20");
    Checks.same("text: pairs", x.text(0, 2), "3=30 1=10 2=20");
    x.put(1, 0, 0);
    Checks.same("text: one key", x.text(1, 0), "0");
    Checks.same("text: one value", x.text(1, 1), "0");
    Checks.same("text: one pair", x.text(1, 2), "0=0");
    for (int what = 0; what <= 2; what++) {
      Checks.same("text: without", x.text(2, what), "");
    }
    for (int no : NO_TABLES) {
      Checks.noPlace("text of table " + no, x, () -> x.text(no, 0));
      Checks.noPlace("text of table " + no + ", both wrong", x, () -> x.text(no, 3));
    }
    for (int no : new int[] {-1, 3, Integer.MIN_VALUE, Integer.MAX_VALUE}) {
      Checks.noArgument("text of " + no, x, () -> x.text(0, no));
      Checks.noArgument("text of " + no + ", empty", x, () -> x.text(2, no));
    }
  }

  private static void promise20OfTable() {
    Lastasked x = three(true, 2);
    Checks.same("ofTable: by asking", x.ofTable(0, 0), 1);
    Checks.same("ofTable: most", x.ofTable(0, 1), 2);
    Checks.same("ofTable: lost many", x.ofTable(0, 2), 1);
    Checks.same("ofTable: lost last", x.ofTable(0, 3), 3);
    Checks.same("ofTable: sum", x.ofTable(0, 4), 30);
    x.put(0, 0, 99);
    Checks.same("ofTable: lost many then", x.ofTable(0, 2), 2);
    Checks.same("ofTable: lost last then", x.ofTable(0, 3), 1);
    Checks.same("ofTable: sum then", x.ofTable(0, 4), 119);
    x.set(0, 0, 0);
    Checks.same("ofTable: sum behind a set", x.ofTable(0, 4), 99);
    x.walk(0, 0);
    x.step(0);
    x.cut(0);
    Checks.same("ofTable: cut is not lost", x.ofTable(0, 2), 2);
    for (int no : NO_TABLES) {
      Checks.noPlace("ofTable of table " + no, x, () -> x.ofTable(no, 0));
      Checks.noPlace("ofTable of table " + no + ", both wrong", x, () -> x.ofTable(no, 5));
    }
    for (int no : new int[] {-1, 5, Integer.MIN_VALUE, Integer.MAX_VALUE}) {
      Checks.noArgument("ofTable of " + no, x, () -> x.ofTable(0, no));
    }
  }
}

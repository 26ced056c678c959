/** The edges that the description's clauses on numbers and tables name. */
final class DescriptionBoundaries {
  private DescriptionBoundaries() {}

  static void all() {
    numbers();
    refusals();
    tables();
    puts();
    otherActs();
    exceptions();
  }

  private static void says(String words, Runnable test) {
    Sentences.holds(Sentences.DESCRIPTION, words, test);
  }

  private static void numbers() {
    says("NONE is -1", DescriptionBoundaries::none);
    says("Numbers of things start with 0", DescriptionBoundaries::firstOfAll);
    says("KEYS are 0 to 19", DescriptionBoundaries::leastAndGreatestKey);
    says("KEYS are 0 to 19", DescriptionBoundaries::keysOutside);
    says("VALUES 0 to 99", DescriptionBoundaries::leastAndGreatestValue);
    says("VALUES 0 to 99", DescriptionBoundaries::valuesOutside);
    says("TABLES 0 to 3", DescriptionBoundaries::firstAndLastTable);
    says("TABLES 0 to 3", DescriptionBoundaries::tablesOutside);
  }

  private static void none() {
    Lastasked x = new Lastasked();
    Checks.same("most", x.ofTable(0, 1), -1);
    Checks.same("key", x.eldest(0), -1);
    Checks.same("given as most", x.make(0, false, -1), 0);
    Checks.same("asking", x.askedAt(0), -1);
    Checks.same("let go", x.lost(1), -1);
  }

  private static void firstOfAll() {
    Lastasked x = new Lastasked();
    x.put(0, 7, 70);
    x.ask(8);
    Checks.same("table 0, place 0", x.keyAt(0, 0), 7);
    Checks.same("place 1", x.keyAt(0, 1), -1);
    Checks.same("asking 0", x.askedAt(0), 8);
    Checks.same("asking 1", x.askedAt(1), -1);
    Checks.same("taken in by asking 0", x.takenAt(1, 8), 0);
  }

  private static void leastAndGreatestKey() {
    for (int key : new int[] {0, 19}) {
      Lastasked x = new Lastasked();
      Checks.same("put", x.put(0, key, 5), -1);
      Checks.same("putIfAbsent", x.putIfAbsent(0, key, 6), 5);
      Checks.same("get", x.get(0, key), 5);
      Checks.same("getOr", x.getOr(0, key, 6), 5);
      Checks.yes("has", x.has(0, key));
      Checks.same("placeOf", x.placeOf(0, key), 0);
      Checks.same("remove", x.remove(0, key), 5);
      Checks.same("ask", x.ask(key), 0);
      Checks.same("askRow", x.askRow(key, 0, 1), 6);
      Checks.same("depth", x.depth(key), 1);
      Checks.yes("keeps", x.keeps(1, key));
      Checks.same("takenAt", x.takenAt(1, key), 0);
    }
  }

  private static void keysOutside() {
    for (int no : new int[] {-1, 20}) {
      Lastasked x = Edges.allKeys();
      Checks.noArgument("put", x, () -> x.put(2, no, 5));
      Checks.noArgument("putIfAbsent", x, () -> x.putIfAbsent(2, no, 5));
      Checks.noArgument("get", x, () -> x.get(2, no));
      Checks.noArgument("getOr", x, () -> x.getOr(2, no, 5));
      Checks.noArgument("has", x, () -> x.has(2, no));
      Checks.noArgument("placeOf", x, () -> x.placeOf(2, no));
      Checks.noArgument("remove", x, () -> x.remove(2, no));
      Checks.noArgument("ask", x, () -> x.ask(no));
      Checks.noArgument("askRow", x, () -> x.askRow(no, 0, 1));
      Checks.noArgument("depth", x, () -> x.depth(no));
      Checks.noArgument("keeps", x, () -> x.keeps(1, no));
      Checks.noArgument("takenAt", x, () -> x.takenAt(1, no));
    }
  }

  private static void leastAndGreatestValue() {
    for (int value : new int[] {0, 99}) {
      Lastasked x = new Lastasked();
      Checks.same("put", x.put(0, 1, value), -1);
      Checks.same("putIfAbsent", x.putIfAbsent(0, 2, value), -1);
      Checks.same("get", x.get(0, 1), value);
      Checks.same("get of the absent one", x.get(0, 2), value);
      x.put(0, 3, 50);
      Checks.same("set", x.set(0, 2, value), 50);
      Checks.same("valueAt", x.valueAt(0, 2), value);
      Checks.same("sum", x.ofTable(0, 4), 3 * value);
    }
  }

  private static void valuesOutside() {
    for (int no : new int[] {-1, 100}) {
      Lastasked x = Edges.four();
      Checks.noArgument("put of one there", x, () -> x.put(2, 1, no));
      Checks.noArgument("put of a new one", x, () -> x.put(2, 9, no));
      Checks.noArgument("putIfAbsent of one there", x, () -> x.putIfAbsent(2, 1, no));
      Checks.noArgument("putIfAbsent of a new one", x, () -> x.putIfAbsent(2, 9, no));
      Checks.noArgument("set", x, () -> x.set(2, 0, no));
      Checks.noArgument("set of no place", x, () -> x.set(2, 4, no));
    }
  }

  private static void firstAndLastTable() {
    Lastasked x = new Lastasked();
    for (int table : new int[] {0, 3}) {
      Checks.same("make", x.make(table, true, 5), 0);
      Checks.same("put", x.put(table, 1, table), -1);
      Checks.same("get", x.get(table, 1), table);
      Checks.same("walk", x.walk(table, 0), 1);
      Checks.same("rest", x.rest(table), 1);
      Checks.same("most", x.ofTable(table, 1), 5);
    }
    Checks.same("copy of the last one into the first", x.copy(3, 0), 1);
    Checks.same("the copy", x.text(0, 2), "1=3");
    Checks.same("all pairs", x.house(0), 2);
  }

  private static void tablesOutside() {
    for (int no : new int[] {-1, 4}) {
      Lastasked x = new Lastasked();
      Checks.noPlace("make", x, () -> x.make(no, false, 3));
      Checks.noPlace("put", x, () -> x.put(no, 1, 1));
      Checks.noPlace("putIfAbsent", x, () -> x.putIfAbsent(no, 1, 1));
      Checks.noPlace("get", x, () -> x.get(no, 1));
      Checks.noPlace("getOr", x, () -> x.getOr(no, 1, 1));
      Checks.noPlace("remove", x, () -> x.remove(no, 1));
      Checks.noPlace("clear", x, () -> x.clear(no));
      Checks.noPlace("set", x, () -> x.set(no, 0, 1));
      Checks.noPlace("copy", x, () -> x.copy(no, 1));
      Checks.noPlace("copy into", x, () -> x.copy(1, no));
      Checks.noPlace("has", x, () -> x.has(no, 1));
      Checks.noPlace("size", x, () -> x.size(no));
      Checks.noPlace("keyAt", x, () -> x.keyAt(no, 0));
      Checks.noPlace("valueAt", x, () -> x.valueAt(no, 0));
      Checks.noPlace("pairAt", x, () -> x.pairAt(no, 0));
      Checks.noPlace("placeOf", x, () -> x.placeOf(no, 1));
      Checks.noPlace("eldest", x, () -> x.eldest(no));
      Checks.noPlace("latest", x, () -> x.latest(no));
      Checks.noPlace("text", x, () -> x.text(no, 0));
      Checks.noPlace("ofTable", x, () -> x.ofTable(no, 0));
      Checks.noPlace("walk", x, () -> x.walk(no, 0));
      Checks.noPlace("step", x, () -> x.step(no));
      Checks.noPlace("cut", x, () -> x.cut(no));
      Checks.noPlace("hasMore", x, () -> x.hasMore(no));
      Checks.noPlace("isStale", x, () -> x.isStale(no));
      Checks.noPlace("rest", x, () -> x.rest(no));
    }
  }

  private static void refusals() {
    says("REFUSED is -9: told where an act can not be done", DescriptionBoundaries::refused);
    says("nothing changes then", DescriptionBoundaries::refusedChangesNothing);
    says("but it is counted", DescriptionBoundaries::refusedIsCounted);
    says("(exceptions go ahead of it)", DescriptionBoundaries::exceptionsAhead);
  }

  private static void refused() {
    Lastasked x = Edges.four();
    Checks.same("set", x.set(2, 4, 1), -9);
    Checks.same("step", x.step(2), -9);
    Checks.same("cut", x.cut(2), -9);
    Checks.same("rest", x.rest(2), -9);
  }

  private static void refusedChangesNothing() {
    Lastasked x = Edges.four();
    x.ask(3);
    Checks.refused("set of no place", x, () -> x.set(2, 4, 1));
    Checks.refused("step without a walk", x, () -> x.step(2));
    Checks.refused("cut without a walk", x, () -> x.cut(2));
    Checks.refused("rest without a walk", x, () -> x.rest(2));
    x.walk(2, 0);
    Checks.refused("cut without a step", x, () -> x.cut(2));
    Checks.refused("set of no place in a walk", x, () -> x.set(2, -1, 1));
    Checks.same("the walk is where it was", x.step(2), 1);
    x.cut(2);
    Checks.refused("cut once more", x, () -> x.cut(2));
    Checks.same("the walk goes on", x.step(2), 2);
    x.get(2, 19);
    Checks.refused("step of a stale one", x, () -> x.step(2));
    Checks.refused("cut of a stale one", x, () -> x.cut(2));
    Checks.refused("rest of a stale one", x, () -> x.rest(2));
    Checks.yes("still stale", x.isStale(2));
    Checks.same("pairs", x.text(2, 2), "2=20 3=30 4=40");
  }

  private static void refusedIsCounted() {
    Lastasked x = new Lastasked();
    Checks.same("none", x.house(3), 0);
    x.set(0, 0, 1);
    Checks.same("by set", x.house(3), 1);
    x.step(1);
    Checks.same("by step", x.house(3), 2);
    x.cut(2);
    Checks.same("by cut", x.house(3), 3);
    x.rest(3);
    Checks.same("by rest", x.house(3), 4);
    x.getOr(0, 1, -9);
    Checks.same("not by what only looks like it", x.house(3), 4);
    x.hasMore(0);
    x.isStale(0);
    x.keyAt(0, 9);
    x.askedAt(9);
    x.walk(0, 0);
    x.step(0);
    x.rest(0);
    Checks.same("not by NONE, false or -8", x.house(3), 4);
    x.make(0, true, 1);
    x.forget();
    Checks.same("is never forgotten", x.house(3), 4);
  }

  private static void exceptionsAhead() {
    Lastasked x = new Lastasked();
    Checks.noArgument("set of no place and no value", x, () -> x.set(0, 0, 100));
    Checks.noPlace("set of no table and no place", x, () -> x.set(4, 0, 0));
    Checks.noPlace("step of no table", x, () -> x.step(4));
    Checks.noPlace("cut of no table", x, () -> x.cut(4));
    Checks.noPlace("rest of no table", x, () -> x.rest(4));
    Checks.same("none is counted", x.house(3), 0);
  }

  private static void tables() {
    says("each KEY once", DescriptionBoundaries::eachKeyOnce);
    says("first to last", DescriptionBoundaries::firstToLast);
    says("has a MOST (1 to 12) or none (NONE)", DescriptionBoundaries::mosts);
    says("All are BY PUTTING, empty, without a MOST at first", DescriptionBoundaries::atFirst);
    says("make: it is anew, empty, of the kind told, with that MOST", DescriptionBoundaries::anew);
    says("PLACES are 0 for the first PAIR, and so on", DescriptionBoundaries::places);
  }

  private static void eachKeyOnce() {
    Lastasked x = Edges.allKeys();
    for (int key = 0; key < 20; key++) {
      Checks.same("again", x.put(2, key, key), 99);
    }
    Checks.same("no more than all keys", x.size(2), 20);
    Checks.same("absent no more", x.putIfAbsent(2, 19, 5), 19);
    Checks.same("the same", x.size(2), 20);
    x.make(0, false, 2);
    x.put(0, 1, 1);
    x.put(0, 1, 2);
    x.put(0, 1, 3);
    Checks.same("one key with a most", x.text(0, 2), "1=3");
  }

  private static void firstToLast() {
    Lastasked x = new Lastasked();
    for (int key = 19; key >= 0; key--) {
      x.put(0, key, 99 - key);
    }
    for (int place = 0; place < 20; place++) {
      Checks.same("place " + place, x.pairAt(0, place), (19 - place) * 100 + 80 + place);
    }
  }

  private static void mosts() {
    for (int most = 1; most <= 12; most++) {
      Lastasked x = Edges.filled(false, most, most);
      Checks.same("most " + most + ": full", x.size(2), most);
      Checks.same("most " + most + ": none lost yet", x.ofTable(2, 2), 0);
      x.put(2, 0, 0);
      Checks.same("most " + most + ": no more", x.size(2), most);
      Checks.same("most " + most + ": one lost", x.ofTable(2, 2), 1);
      Checks.same("most " + most + ": the first one", x.ofTable(2, 3), 1);
    }
    Lastasked y = Edges.allKeys();
    Checks.same("none: all keys", y.size(2), 20);
    Checks.same("none: none lost", y.ofTable(2, 2), 0);
    for (int no : Edges.NO_MOSTS) {
      Checks.noArgument("most " + no, y, () -> y.make(2, true, no));
    }
  }

  private static void atFirst() {
    Lastasked x = new Lastasked();
    for (int table = 0; table < 4; table++) {
      Checks.same("kind", x.ofTable(table, 0), 0);
      Checks.same("most", x.ofTable(table, 1), -1);
      Checks.same("size", x.size(table), 0);
      for (int key = 0; key < 20; key++) {
        x.put(table, key, 1);
      }
      x.get(table, 0);
      Checks.same("all keys", x.size(table), 20);
      Checks.same("stays by putting", x.eldest(table), 0);
    }
  }

  private static void anew() {
    Lastasked x = Edges.filled(true, 3, 9);
    x.walk(2, 0);
    x.make(2, false, 2);
    Checks.same("empty", x.text(2, 2), "");
    Checks.same("kind", x.ofTable(2, 0), 0);
    Checks.same("most", x.ofTable(2, 1), 2);
    Checks.same("lost many", x.ofTable(2, 2), 0);
    Checks.same("lost last", x.ofTable(2, 3), -1);
    Checks.same("sum", x.ofTable(2, 4), 0);
    Checks.same("nothing of before is there", x.get(2, 9), -1);
    x.put(2, 1, 1);
    x.put(2, 2, 2);
    x.get(2, 1);
    x.put(2, 3, 3);
    Checks.same("by putting, with 2", x.text(2, 2), "2=2 3=3");
    x.make(2, true, -1);
    for (int key = 0; key < 20; key++) {
      x.put(2, key, key);
    }
    x.get(2, 0);
    Checks.same("without a most", x.size(2), 20);
    Checks.same("by asking", x.latest(2), 0);
    Checks.same("the other tables stay", x.house(0), 20);
  }

  private static void places() {
    Lastasked x = Edges.four();
    for (int place = 0; place < 4; place++) {
      Checks.same("key", x.keyAt(2, place), place + 1);
      Checks.same("place", x.placeOf(2, place + 1), place);
    }
    x.remove(2, 1);
    Checks.same("all move up", x.placeOf(2, 4), 2);
    Checks.same("the last place is none now", x.keyAt(2, 3), -1);
  }

  private static void puts() {
    says("its VALUE becomes that one, and BY ASKING the PAIR goes to the end",
        DescriptionBoundaries::putOfOneThere);
    says("otherwise the PAIR comes at the end, and if there are more than MOST then,"
        + " the first PAIR goes (it is LOST)", DescriptionBoundaries::putOfNewOne);
    says("Of a TABLE without MOST: put if absent: if the KEY is there, nothing is put,"
        + " but BY ASKING its PAIR goes to the end", DescriptionBoundaries::putIfAbsentThere);
    says("otherwise the PAIR comes at the end.", DescriptionBoundaries::putIfAbsentNew);
  }

  private static void putOfOneThere() {
    for (boolean isByAsking : new boolean[] {false, true}) {
      // Full tables: a put of what is there already makes nothing too much.
      for (int most : new int[] {-1, 3}) {
        Lastasked x = Edges.filled(isByAsking, most, 3);
        x.put(2, 1, 0);
        Checks.same("first", x.text(2, 2), isByAsking ? "2=20 3=30 1=0" : "1=0 2=20 3=30");
        x.put(2, 3, 99);
        Checks.same("then", x.text(2, 2), isByAsking ? "2=20 1=0 3=99" : "1=0 2=20 3=99");
        x.put(2, 3, 98);
        Checks.same("last", x.text(2, 2), isByAsking ? "2=20 1=0 3=98" : "1=0 2=20 3=98");
        Checks.same("none lost", x.ofTable(2, 2), 0);
      }
      Lastasked y = Edges.filled(isByAsking, 1, 1);
      y.put(2, 1, 11);
      Checks.same("the only one", y.text(2, 2), "1=11");
      Checks.same("the only one is not lost", y.ofTable(2, 2), 0);
    }
  }

  private static void putOfNewOne() {
    for (boolean isByAsking : new boolean[] {false, true}) {
      Lastasked x = Edges.filled(isByAsking, 3, 2);
      x.put(2, 3, 30);
      Checks.same("just MOST", x.text(2, 2), "1=10 2=20 3=30");
      Checks.same("none lost yet", x.ofTable(2, 3), -1);
      x.put(2, 0, 5);
      Checks.same("one more", x.text(2, 2), "2=20 3=30 0=5");
      Checks.same("lost", x.ofTable(2, 3), 1);
      x.put(2, 1, 1);
      Checks.same("the lost one again", x.text(2, 2), "3=30 0=5 1=1");
      Checks.same("lost then", x.ofTable(2, 3), 2);
      Checks.same("lost in all", x.ofTable(2, 2), 2);
      Lastasked y = Edges.filled(isByAsking, 1, 2);
      Checks.same("MOST 1: the new one stays", y.text(2, 2), "2=20");
      Checks.same("MOST 1: the old one goes", y.ofTable(2, 3), 1);
    }
    Lastasked z = Edges.filled(true, 3, 3);
    z.get(2, 1);
    z.put(2, 4, 40);
    Checks.same("by asking, the first one then", z.ofTable(2, 3), 2);
    Lastasked w = Edges.filled(false, 3, 3);
    w.get(2, 1);
    w.put(2, 4, 40);
    Checks.same("by putting, the first one still", w.ofTable(2, 3), 1);
  }

  private static void putIfAbsentThere() {
    for (boolean isByAsking : new boolean[] {false, true}) {
      Lastasked x = Edges.filled(isByAsking, -1, 3);
      x.putIfAbsent(2, 1, 99);
      Checks.same("first", x.text(2, 2), isByAsking ? "2=20 3=30 1=10" : "1=10 2=20 3=30");
      x.putIfAbsent(2, 3, 99);
      Checks.same("then", x.text(2, 2), isByAsking ? "2=20 1=10 3=30" : "1=10 2=20 3=30");
      x.putIfAbsent(2, 3, 0);
      Checks.same("last", x.latest(2), 3);
      Checks.same("as many", x.size(2), 3);
    }
  }

  private static void putIfAbsentNew() {
    for (boolean isByAsking : new boolean[] {false, true}) {
      Lastasked x = Edges.filled(isByAsking, -1, 0);
      x.putIfAbsent(2, 5, 50);
      Checks.same("into an empty one", x.text(2, 2), "5=50");
      x.putIfAbsent(2, 0, 0);
      Checks.same("at the end", x.text(2, 2), "5=50 0=0");
      for (int key = 0; key < 20; key++) {
        x.putIfAbsent(2, key, key);
      }
      Checks.same("all keys", x.size(2), 20);
      Checks.same("none lost", x.ofTable(2, 2), 0);
    }
  }

  private static void otherActs() {
    says("get, and get or: if the KEY is there, BY ASKING its PAIR goes to the end",
        DescriptionBoundaries::gets);
    says("remove: the PAIR with that KEY goes", DescriptionBoundaries::removes);
    says("clear: all go", DescriptionBoundaries::clears);
    says("has, and all that is asked by places, changes nothing", DescriptionBoundaries::looks);
    says("(it stays where it is)", DescriptionBoundaries::setStays);
    says("copy: a TABLE becomes BY PUTTING, without a MOST", DescriptionBoundaries::copyKind);
    says("with the PAIRS of another one (or of itself), as they stand there",
        DescriptionBoundaries::copyPairs);
    says("nothing was LOST of it", DescriptionBoundaries::copyLost);
  }

  private static void gets() {
    Lastasked x = Edges.filled(true, 3, 3);
    x.get(2, 1);
    Checks.same("get of the first", x.text(2, 2), "2=20 3=30 1=10");
    x.getOr(2, 3, 0);
    Checks.same("get or of the middle", x.text(2, 2), "2=20 1=10 3=30");
    x.get(2, 3);
    x.getOr(2, 3, 0);
    Checks.same("of the last", x.text(2, 2), "2=20 1=10 3=30");
    x.get(2, 0);
    x.getOr(2, 0, 7);
    Checks.same("of none", x.text(2, 2), "2=20 1=10 3=30");
    Checks.same("nothing is put or lost", x.ofTable(2, 2), 0);
    Lastasked y = Edges.filled(false, 3, 3);
    y.get(2, 1);
    y.getOr(2, 2, 0);
    Checks.same("by putting", y.text(2, 2), "1=10 2=20 3=30");
    Lastasked z = Edges.allKeys();
    z.get(2, 0);
    Checks.same("of all keys", z.latest(2), 0);
    Checks.same("of all keys, the first then", z.eldest(2), 1);
    Checks.same("of all keys, as many", z.size(2), 20);
  }

  private static void removes() {
    Lastasked x = Edges.filled(true, -1, 5);
    x.remove(2, 1);
    Checks.same("the first", x.text(2, 2), "2=20 3=30 4=40 5=50");
    x.remove(2, 5);
    Checks.same("the last", x.text(2, 2), "2=20 3=30 4=40");
    x.remove(2, 3);
    Checks.same("the middle", x.text(2, 2), "2=20 4=40");
    x.remove(2, 3);
    Checks.same("none", x.text(2, 2), "2=20 4=40");
    x.remove(2, 2);
    x.remove(2, 4);
    Checks.same("the only one", x.size(2), 0);
    x.remove(2, 4);
    Checks.same("of an empty one", x.size(2), 0);
    Lastasked y = Edges.filled(false, 2, 2);
    y.remove(2, 1);
    y.put(2, 3, 30);
    Checks.same("makes room", y.text(2, 2), "2=20 3=30");
    Checks.same("is not lost", y.ofTable(2, 2), 0);
  }

  private static void clears() {
    Lastasked x = Edges.allKeys();
    x.clear(2);
    Checks.same("full before", x.size(2), 0);
    for (int key = 0; key < 20; key++) {
      Checks.no("key " + key, x.has(2, key));
    }
    x.clear(2);
    Checks.same("empty before", x.size(2), 0);
    Checks.same("the kind stays", x.ofTable(2, 0), 1);
    Lastasked y = Edges.filled(true, 2, 3);
    y.clear(2);
    Checks.same("the most stays", y.ofTable(2, 1), 2);
    Checks.same("what was lost stays", y.ofTable(2, 2), 1);
    Checks.same("which was lost stays", y.ofTable(2, 3), 1);
  }

  private static void looks() {
    Lastasked x = Edges.four();
    x.walk(2, 0);
    long before = x.digest();
    x.has(2, 1);
    x.has(2, 9);
    x.size(2);
    x.placeOf(2, 1);
    x.placeOf(2, 9);
    x.eldest(2);
    x.latest(2);
    for (int place = -1; place <= 4; place++) {
      x.keyAt(2, place);
      x.valueAt(2, place);
      x.pairAt(2, place);
    }
    for (int what = 0; what <= 2; what++) {
      x.text(2, what);
    }
    Checks.same("digest", x.digest(), before);
    Checks.same("pairs", x.text(2, 2), "1=10 2=20 3=30 4=40");
    Checks.same("the walk", x.step(2), 1);
  }

  private static void setStays() {
    for (boolean isByAsking : new boolean[] {false, true}) {
      Lastasked x = Edges.filled(isByAsking, 3, 3);
      x.set(2, 0, 0);
      Checks.same("first", x.text(2, 2), "1=0 2=20 3=30");
      x.set(2, 2, 99);
      Checks.same("last", x.text(2, 2), "1=0 2=20 3=99");
      x.set(2, 1, 20);
      Checks.same("the same value", x.text(2, 2), "1=0 2=20 3=99");
    }
  }

  private static void copyKind() {
    Lastasked x = Edges.filled(true, 2, 2);
    x.make(1, true, 12);
    x.copy(2, 1);
    Checks.same("kind", x.ofTable(1, 0), 0);
    Checks.same("most", x.ofTable(1, 1), -1);
    x.put(1, 1, 11);
    x.put(1, 5, 50);
    Checks.same("stays, and takes in more", x.text(1, 2), "1=11 2=20 5=50");
    Checks.same("none lost by that", x.ofTable(1, 2), 0);
    Checks.same("the copied one keeps its kind", x.ofTable(2, 0), 1);
    Checks.same("the copied one keeps its most", x.ofTable(2, 1), 2);
    Checks.same("putIfAbsent is free then", x.putIfAbsent(1, 6, 60), -1);
    x.copy(2, 2);
    Checks.same("of itself: kind", x.ofTable(2, 0), 0);
    Checks.same("of itself: most", x.ofTable(2, 1), -1);
    Checks.same("of itself: putIfAbsent is free then", x.putIfAbsent(2, 6, 60), -1);
  }

  private static void copyPairs() {
    Lastasked x = Edges.four();
    x.get(2, 1);
    x.put(0, 9, 9);
    x.copy(2, 0);
    Checks.same("of another one", x.text(0, 2), "2=20 3=30 4=40 1=10");
    Checks.same("that one stays", x.text(2, 2), "2=20 3=30 4=40 1=10");
    x.put(0, 2, 22);
    x.remove(2, 3);
    Checks.same("each on its own", x.text(0, 2), "2=22 3=30 4=40 1=10");
    x.copy(2, 2);
    Checks.same("of itself", x.text(2, 2), "2=20 4=40 1=10");
    x.copy(1, 0);
    Checks.same("of an empty one", x.text(0, 2), "");
    x.copy(1, 1);
    Checks.same("of itself, empty", x.text(1, 2), "");
    Lastasked y = Edges.allKeys();
    y.copy(2, 3);
    Checks.same("of all keys", y.text(3, 2), y.text(2, 2));
    y.copy(3, 3);
    Checks.same("of all keys, of itself", y.text(3, 2), y.text(2, 2));
  }

  private static void copyLost() {
    Lastasked x = Edges.filled(true, 2, 5);
    x.make(1, true, 1);
    x.put(1, 1, 1);
    x.put(1, 2, 2);
    x.copy(2, 1);
    Checks.same("how many", x.ofTable(1, 2), 0);
    Checks.same("which", x.ofTable(1, 3), -1);
    Checks.same("of the copied one they stay", x.ofTable(2, 2), 3);
    Checks.same("which of the copied one stays", x.ofTable(2, 3), 3);
    x.copy(2, 2);
    Checks.same("of itself: how many", x.ofTable(2, 2), 0);
    Checks.same("of itself: which", x.ofTable(2, 3), -1);
  }

  private static void exceptions() {
    says("A method that throws an exception changes nothing", DescriptionBoundaries::changesNothing);
    says("the one that is named first is thrown", DescriptionBoundaries::namedFirst);
  }

  private static void changesNothing() {
    Lastasked x = Edges.filled(true, 3, 4);
    x.askRow(0, 1, 12);
    x.walk(2, 0);
    x.step(2);
    Checks.noArgument("make", x, () -> x.make(2, false, 0));
    Checks.noArgument("put of a new one", x, () -> x.put(2, 5, 100));
    Checks.noArgument("put of one there", x, () -> x.put(2, 2, 100));
    Checks.noState("putIfAbsent of a new one", x, () -> x.putIfAbsent(2, 5, 5));
    Checks.noState("putIfAbsent of one there", x, () -> x.putIfAbsent(2, 2, 5));
    Checks.noArgument("get", x, () -> x.get(2, 20));
    Checks.noArgument("getOr", x, () -> x.getOr(2, 20, 0));
    Checks.noArgument("remove", x, () -> x.remove(2, -1));
    Checks.noArgument("set", x, () -> x.set(2, 0, 100));
    Checks.noPlace("copy of no table", x, () -> x.copy(4, 2));
    Checks.noPlace("copy into no table", x, () -> x.copy(2, 4));
    Checks.noArgument("walk", x, () -> x.walk(2, 3));
    Checks.noArgument("ask", x, () -> x.ask(20));
    Checks.noArgument("askRow", x, () -> x.askRow(0, 20, 1));
    Checks.same("the walk goes on", x.step(2), 3);
    Checks.same("what it came to can be cut", x.cut(2), 2);
    for (int i = 0; i < 3; i++) {
      x.askRow(0, 1, 12);
    }
    x.ask(0);
    Checks.noState("askRow, of which some would fit", x, () -> x.askRow(0, 1, 12));
    x.askRow(1, 1, 11);
    Checks.noState("ask", x, () -> x.ask(0));
    Checks.same("the walk still goes on", x.step(2), 4);
  }

  private static void namedFirst() {
    Lastasked x = Edges.filled(true, 3, 3);
    Checks.noPlace("make", x, () -> x.make(4, true, 13));
    Checks.noPlace("put", x, () -> x.put(4, 20, 100));
    Checks.noPlace("putIfAbsent", x, () -> x.putIfAbsent(-1, 20, 100));
    Checks.noArgument("putIfAbsent of no key, with a most", x, () -> x.putIfAbsent(2, 20, 0));
    Checks.noArgument("putIfAbsent of no value, with a most", x, () -> x.putIfAbsent(2, 0, 100));
    Checks.noPlace("get", x, () -> x.get(4, 20));
    Checks.noPlace("getOr", x, () -> x.getOr(4, 20, 0));
    Checks.noPlace("remove", x, () -> x.remove(4, 20));
    Checks.noPlace("set", x, () -> x.set(4, 0, 100));
    Checks.noPlace("has", x, () -> x.has(4, 20));
    Checks.noPlace("placeOf", x, () -> x.placeOf(4, 20));
    Checks.noPlace("text", x, () -> x.text(4, 3));
    Checks.noPlace("ofTable", x, () -> x.ofTable(4, 5));
    Checks.noPlace("walk", x, () -> x.walk(4, 3));
    Lastasked y = Edges.rounds(60);
    Checks.noArgument("ask", y, () -> y.ask(20));
    Checks.noArgument("askRow from no key", y, () -> y.askRow(20, 0, 1));
    Checks.noArgument("askRow by no step", y, () -> y.askRow(0, 20, 1));
    Checks.noArgument("askRow of too many", y, () -> y.askRow(0, 0, 13));
  }
}

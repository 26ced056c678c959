/** The edges that promises 1 to 20 name. */
final class TableBoundaries {
  private static final String NO_SUCH_TABLE = "there is no such TABLE";

  private TableBoundaries() {}

  static void all() {
    newAndMake();
    puts();
    gets();
    removes();
    sets();
    copies();
    looksAtKeys();
    looksAtPlaces();
    looksAtEnds();
    looksAtAll();
  }

  private static void newAndMake() {
    Sentences.holds(1, "Creates four empty tables, an empty stack and six empty keepers",
        TableBoundaries::newOne);
    Sentences.holds(2, "MOST, or NONE", TableBoundaries::makeWithEachMost);
    Sentences.holds(2, "Returns how many PAIRS it had before", TableBoundaries::makeReturns);
    Sentences.holds(2, NO_SUCH_TABLE, TableBoundaries::makeOfNoTable);
    Sentences.holds(2, "most is not NONE and not 1 to 12", TableBoundaries::makeWithNoMost);
  }

  private static void newOne() {
    Lastasked x = new Lastasked();
    for (int table = 0; table < 4; table++) {
      Checks.same("table " + table, x.size(table), 0);
      Checks.same("pairs of table " + table, x.text(table, 2), "");
    }
    Checks.noPlace("no fifth table", x, () -> x.size(4));
    Checks.same("stack", x.stack(), "");
    for (int size = 1; size <= 6; size++) {
      Checks.same("keeper " + size, x.kept(size), "");
    }
    Checks.noArgument("no seventh keeper", x, () -> x.kept(7));
    Checks.same("askings", x.asked(), 0);
    Checks.same("refusals", x.house(3), 0);
    Checks.same("knocks", x.house(4), 0);
  }

  private static void makeWithEachMost() {
    Lastasked x = new Lastasked();
    for (int most = 1; most <= 12; most++) {
      x.make(0, true, most);
      Checks.same("most", x.ofTable(0, 1), most);
    }
    x.make(0, true, -1);
    Checks.same("none", x.ofTable(0, 1), -1);
  }

  private static void makeReturns() {
    Lastasked x = Edges.allKeys();
    Checks.same("all keys", x.make(2, true, 1), 20);
    Checks.same("empty", x.make(2, true, 1), 0);
    x.put(2, 1, 1);
    Checks.same("one", x.make(2, false, 12), 1);
    for (int key = 0; key < 20; key++) {
      x.put(2, key, key);
    }
    Checks.same("no more than its MOST", x.make(2, false, -1), 12);
  }

  private static void makeOfNoTable() {
    Lastasked x = Edges.four();
    for (int no : Edges.NO_TABLES) {
      Checks.noPlace("table " + no, x, () -> x.make(no, true, 12));
      Checks.noPlace("table " + no + ", no most", x, () -> x.make(no, true, 0));
    }
  }

  private static void makeWithNoMost() {
    Lastasked x = Edges.four();
    for (int no : Edges.NO_MOSTS) {
      Checks.noArgument("by asking, most " + no, x, () -> x.make(2, true, no));
      Checks.noArgument("by putting, most " + no, x, () -> x.make(2, false, no));
    }
  }

  private static void puts() {
    Sentences.holds(3, "Returns the VALUE that it had", TableBoundaries::putReturns);
    Sentences.holds(3, "NONE if it was not there", TableBoundaries::putOfNone);
    Sentences.holds(3, NO_SUCH_TABLE, TableBoundaries::putIntoNoTable);
    Sentences.holds(3, "if key is not 0 to 19", TableBoundaries::putOfNoKey);
    Sentences.holds(3, "or value not 0 to 99", TableBoundaries::putOfNoValue);
    Sentences.holds(4, "Returns the VALUE that it has already", TableBoundaries::putIfAbsentReturns);
    Sentences.holds(4, "NONE if it was put", TableBoundaries::putIfAbsentOfNone);
    Sentences.holds(4, NO_SUCH_TABLE, TableBoundaries::putIfAbsentIntoNoTable);
    Sentences.holds(4, "if key is not 0 to 19", TableBoundaries::putIfAbsentOfNoKey);
    Sentences.holds(4, "or value not 0 to 99", TableBoundaries::putIfAbsentOfNoValue);
    Sentences.holds(4, "if the TABLE has a MOST", TableBoundaries::putIfAbsentWithMost);
  }

  private static void putReturns() {
    for (boolean isByAsking : new boolean[] {false, true}) {
      Lastasked x = Edges.filled(isByAsking, 2, 2);
      Checks.same("first", x.put(2, 1, 0), 10);
      Checks.same("a value 0 is not NONE", x.put(2, 1, 99), 0);
      Checks.same("the greatest value", x.put(2, 1, 5), 99);
      Checks.same("the same value", x.put(2, 1, 5), 5);
    }
  }

  private static void putOfNone() {
    Lastasked x = new Lastasked();
    Checks.same("empty", x.put(2, 0, 0), -1);
    x.remove(2, 0);
    Checks.same("removed", x.put(2, 0, 1), -1);
    x.clear(2);
    Checks.same("cleared", x.put(2, 0, 2), -1);
    x.make(2, false, 1);
    Checks.same("made anew", x.put(2, 0, 3), -1);
    x.put(2, 1, 1);
    Checks.same("lost", x.put(2, 0, 4), -1);
    x.walk(2, 0);
    x.step(2);
    x.cut(2);
    Checks.same("cut", x.put(2, 0, 5), -1);
    Checks.same("of another table", x.put(1, 0, 6), -1);
  }

  private static void putIntoNoTable() {
    Lastasked x = Edges.four();
    for (int no : Edges.NO_TABLES) {
      Checks.noPlace("table " + no, x, () -> x.put(no, 1, 1));
      Checks.noPlace("table " + no + ", no key", x, () -> x.put(no, 20, 1));
      Checks.noPlace("table " + no + ", no value", x, () -> x.put(no, 1, 100));
    }
  }

  private static void putOfNoKey() {
    Lastasked x = Edges.allKeys();
    for (int no : Edges.NO_KEYS) {
      Checks.noArgument("key " + no, x, () -> x.put(2, no, 1));
      Checks.noArgument("key " + no + " into an empty one", x, () -> x.put(0, no, 1));
    }
  }

  private static void putOfNoValue() {
    Lastasked x = Edges.four();
    for (int no : Edges.NO_VALUES) {
      Checks.noArgument("value " + no + " of one there", x, () -> x.put(2, 1, no));
      Checks.noArgument("value " + no + " of a new one", x, () -> x.put(2, 9, no));
    }
  }

  private static void putIfAbsentReturns() {
    for (boolean isByAsking : new boolean[] {false, true}) {
      Lastasked x = Edges.filled(isByAsking, -1, 2);
      Checks.same("first", x.putIfAbsent(2, 1, 99), 10);
      Checks.same("it stays that", x.putIfAbsent(2, 1, 98), 10);
      x.put(2, 1, 0);
      Checks.same("a value 0 is there too", x.putIfAbsent(2, 1, 7), 0);
      Checks.same("it stays 0", x.getOr(2, 1, 5), 0);
      x.put(2, 1, 99);
      Checks.same("the greatest", x.putIfAbsent(2, 1, 0), 99);
    }
  }

  private static void putIfAbsentOfNone() {
    Lastasked x = new Lastasked();
    Checks.same("empty", x.putIfAbsent(2, 0, 5), -1);
    Checks.same("it was put", x.get(2, 0), 5);
    x.remove(2, 0);
    Checks.same("removed", x.putIfAbsent(2, 0, 0), -1);
    Checks.same("it was put again", x.get(2, 0), 0);
    x.clear(2);
    Checks.same("cleared", x.putIfAbsent(2, 0, 99), -1);
    Checks.same("it was put once more", x.get(2, 0), 99);
  }

  private static void putIfAbsentIntoNoTable() {
    Lastasked x = Edges.four();
    for (int no : Edges.NO_TABLES) {
      Checks.noPlace("table " + no, x, () -> x.putIfAbsent(no, 1, 1));
      Checks.noPlace("table " + no + ", no key", x, () -> x.putIfAbsent(no, 20, 1));
      Checks.noPlace("table " + no + ", no value", x, () -> x.putIfAbsent(no, 1, 100));
    }
  }

  private static void putIfAbsentOfNoKey() {
    Lastasked x = Edges.allKeys();
    for (int no : Edges.NO_KEYS) {
      Checks.noArgument("key " + no, x, () -> x.putIfAbsent(2, no, 1));
      Checks.noArgument("key " + no + " into an empty one", x, () -> x.putIfAbsent(0, no, 1));
    }
    x.make(1, true, 1);
    Checks.noArgument("ahead of the most", x, () -> x.putIfAbsent(1, 20, 1));
  }

  private static void putIfAbsentOfNoValue() {
    Lastasked x = Edges.four();
    for (int no : Edges.NO_VALUES) {
      Checks.noArgument("value " + no + " of one there", x, () -> x.putIfAbsent(2, 1, no));
      Checks.noArgument("value " + no + " of a new one", x, () -> x.putIfAbsent(2, 9, no));
    }
    x.make(1, true, 1);
    Checks.noArgument("ahead of the most", x, () -> x.putIfAbsent(1, 1, 100));
  }

  private static void putIfAbsentWithMost() {
    for (int most : new int[] {1, 12}) {
      for (boolean isByAsking : new boolean[] {false, true}) {
        Lastasked x = new Lastasked();
        x.make(2, isByAsking, most);
        Checks.noState("into an empty one", x, () -> x.putIfAbsent(2, 1, 1));
        x.put(2, 1, 1);
        Checks.noState("of one there", x, () -> x.putIfAbsent(2, 1, 2));
        Checks.noState("of a new one", x, () -> x.putIfAbsent(2, 2, 2));
        x.make(2, isByAsking, -1);
        Checks.same("without one again", x.putIfAbsent(2, 1, 1), -1);
        Checks.same("nor has another table one", x.putIfAbsent(1, 1, 1), -1);
      }
    }
  }

  private static void gets() {
    Sentences.holds(5, "Returns its VALUE", TableBoundaries::getReturns);
    Sentences.holds(5, "NONE if it is not there", TableBoundaries::getOfNone);
    Sentences.holds(5, NO_SUCH_TABLE, TableBoundaries::getOfNoTable);
    Sentences.holds(5, "key is not 0 to 19", TableBoundaries::getOfNoKey);
    Sentences.holds(6, "any number", TableBoundaries::getOrOfAnyOther);
    Sentences.holds(6, "Returns its VALUE", TableBoundaries::getOrReturns);
    Sentences.holds(6, "other if it is not there", TableBoundaries::getOrOfNone);
    Sentences.holds(6, NO_SUCH_TABLE, TableBoundaries::getOrOfNoTable);
    Sentences.holds(6, "key is not 0 to 19", TableBoundaries::getOrOfNoKey);
  }

  private static void getReturns() {
    for (boolean isByAsking : new boolean[] {false, true}) {
      Lastasked x = Edges.filled(isByAsking, 4, 4);
      for (int key = 1; key <= 4; key++) {
        Checks.same("key " + key, x.get(2, key), key * 10);
      }
      x.put(2, 1, 0);
      Checks.same("a value 0 is not NONE", x.get(2, 1), 0);
      x.put(2, 1, 99);
      Checks.same("the greatest value", x.get(2, 1), 99);
    }
  }

  private static void getOfNone() {
    Lastasked x = Edges.filled(true, 2, 3);
    Checks.same("never there", x.get(2, 0), -1);
    Checks.same("lost", x.get(2, 1), -1);
    x.remove(2, 2);
    Checks.same("removed", x.get(2, 2), -1);
    x.clear(2);
    Checks.same("cleared", x.get(2, 3), -1);
    Checks.same("empty", x.get(0, 0), -1);
    Checks.same("is put by that not", x.size(0), 0);
    Checks.same("is no refusal", x.house(3), 0);
  }

  private static void getOfNoTable() {
    Lastasked x = Edges.four();
    for (int no : Edges.NO_TABLES) {
      Checks.noPlace("table " + no, x, () -> x.get(no, 1));
      Checks.noPlace("table " + no + ", no key", x, () -> x.get(no, 20));
    }
  }

  private static void getOfNoKey() {
    Lastasked x = Edges.allKeys();
    for (int no : Edges.NO_KEYS) {
      Checks.noArgument("key " + no, x, () -> x.get(2, no));
      Checks.noArgument("key " + no + " of an empty one", x, () -> x.get(0, no));
    }
  }

  private static void getOrOfAnyOther() {
    Lastasked x = Edges.four();
    for (int other : new int[] {0, -1, -9, 100, Edges.LEAST, Edges.GREATEST}) {
      Checks.same("not there", x.getOr(2, 9, other), other);
      Checks.same("there", x.getOr(2, 1, other), 10);
      Checks.same("of an empty one", x.getOr(0, 1, other), other);
    }
    Checks.same("is no refusal", x.house(3), 0);
    Checks.same("puts nothing", x.house(0), 4);
  }

  private static void getOrReturns() {
    for (boolean isByAsking : new boolean[] {false, true}) {
      Lastasked x = Edges.filled(isByAsking, 4, 4);
      for (int key = 1; key <= 4; key++) {
        Checks.same("key " + key, x.getOr(2, key, 5), key * 10);
      }
      x.put(2, 1, 0);
      Checks.same("a value 0 is there too", x.getOr(2, 1, 5), 0);
    }
  }

  private static void getOrOfNone() {
    Lastasked x = Edges.filled(true, 2, 3);
    Checks.same("never there", x.getOr(2, 0, 5), 5);
    Checks.same("lost", x.getOr(2, 1, 6), 6);
    x.remove(2, 2);
    Checks.same("removed", x.getOr(2, 2, 7), 7);
    x.clear(2);
    Checks.same("cleared", x.getOr(2, 3, 8), 8);
  }

  private static void getOrOfNoTable() {
    Lastasked x = Edges.four();
    for (int no : Edges.NO_TABLES) {
      Checks.noPlace("table " + no, x, () -> x.getOr(no, 1, 5));
      Checks.noPlace("table " + no + ", no key", x, () -> x.getOr(no, 20, 5));
    }
  }

  private static void getOrOfNoKey() {
    Lastasked x = Edges.allKeys();
    for (int no : Edges.NO_KEYS) {
      Checks.noArgument("key " + no, x, () -> x.getOr(2, no, 5));
      Checks.noArgument("key " + no + " of an empty one", x, () -> x.getOr(0, no, no));
    }
  }

  private static void removes() {
    Sentences.holds(7, "Returns the VALUE that it had", TableBoundaries::removeReturns);
    Sentences.holds(7, "NONE if it was not there", TableBoundaries::removeOfNone);
    Sentences.holds(7, NO_SUCH_TABLE, TableBoundaries::removeOfNoTable);
    Sentences.holds(7, "key is not 0 to 19", TableBoundaries::removeOfNoKey);
    Sentences.holds(8, "Returns how many PAIRS it had", TableBoundaries::clearReturns);
    Sentences.holds(8, NO_SUCH_TABLE, TableBoundaries::clearOfNoTable);
  }

  private static void removeReturns() {
    Lastasked x = Edges.four();
    Checks.same("first", x.remove(2, 1), 10);
    Checks.same("last", x.remove(2, 4), 40);
    x.put(2, 9, 0);
    Checks.same("a value 0 is not NONE", x.remove(2, 9), 0);
    Checks.same("first of two", x.remove(2, 2), 20);
    Checks.same("the only one", x.remove(2, 3), 30);
    Checks.same("none left", x.size(2), 0);
  }

  private static void removeOfNone() {
    Lastasked x = Edges.four();
    Checks.same("never there", x.remove(2, 0), -1);
    x.remove(2, 1);
    Checks.same("removed before", x.remove(2, 1), -1);
    Checks.same("empty", x.remove(0, 0), -1);
    Checks.same("is no refusal", x.house(3), 0);
    Checks.same("all others stay", x.text(2, 0), "2 3 4");
  }

  private static void removeOfNoTable() {
    Lastasked x = Edges.four();
    for (int no : Edges.NO_TABLES) {
      Checks.noPlace("table " + no, x, () -> x.remove(no, 1));
      Checks.noPlace("table " + no + ", no key", x, () -> x.remove(no, 20));
    }
  }

  private static void removeOfNoKey() {
    Lastasked x = Edges.allKeys();
    for (int no : Edges.NO_KEYS) {
      Checks.noArgument("key " + no, x, () -> x.remove(2, no));
      Checks.noArgument("key " + no + " of an empty one", x, () -> x.remove(0, no));
    }
  }

  private static void clearReturns() {
    Lastasked x = Edges.allKeys();
    Checks.same("all keys", x.clear(2), 20);
    Checks.same("empty", x.clear(2), 0);
    x.put(2, 0, 0);
    Checks.same("one", x.clear(2), 1);
    x.make(2, true, 12);
    for (int key = 0; key < 20; key++) {
      x.put(2, key, key);
    }
    Checks.same("no more than its MOST", x.clear(2), 12);
  }

  private static void clearOfNoTable() {
    Lastasked x = Edges.four();
    for (int no : Edges.NO_TABLES) {
      Checks.noPlace("table " + no, x, () -> x.clear(no));
    }
  }

  private static void sets() {
    Sentences.holds(9, "Returns the VALUE before", TableBoundaries::setReturns);
    Sentences.holds(9, "REFUSED if there is no such place", TableBoundaries::setOfNoPlace);
    Sentences.holds(9, NO_SUCH_TABLE, TableBoundaries::setOfNoTable);
    Sentences.holds(9, "value is not 0 to 99", TableBoundaries::setOfNoValue);
  }

  private static void setReturns() {
    Lastasked x = Edges.allKeys();
    Checks.same("first place", x.set(2, 0, 0), 99);
    Checks.same("a value 0", x.set(2, 0, 99), 0);
    Checks.same("last place", x.set(2, 19, 5), 99);
    Checks.same("the same value", x.set(2, 19, 5), 5);
    Checks.same("it is that", x.pairAt(2, 19), 1905);
    Checks.same("no refusal", x.house(3), 0);
  }

  private static void setOfNoPlace() {
    Lastasked x = Edges.allKeys();
    for (int no : new int[] {-1, 20, Edges.LEAST, Edges.GREATEST}) {
      Checks.refused("place " + no, x, () -> x.set(2, no, 5));
      Checks.refused("place " + no + " of an empty one", x, () -> x.set(0, no, 5));
    }
    Checks.refused("the first place of an empty one", x, () -> x.set(0, 0, 5));
    x.remove(2, 7);
    Checks.refused("a place that was there", x, () -> x.set(2, 19, 5));
    x.make(1, true, 2);
    for (int key = 0; key < 4; key++) {
      x.put(1, key, key);
    }
    Checks.refused("behind its MOST", x, () -> x.set(1, 2, 5));
  }

  private static void setOfNoTable() {
    Lastasked x = Edges.four();
    for (int no : Edges.NO_TABLES) {
      Checks.noPlace("table " + no, x, () -> x.set(no, 0, 1));
      Checks.noPlace("table " + no + ", no value", x, () -> x.set(no, 0, 100));
      Checks.noPlace("table " + no + ", no place", x, () -> x.set(no, -1, 1));
    }
  }

  private static void setOfNoValue() {
    Lastasked x = Edges.four();
    for (int no : Edges.NO_VALUES) {
      Checks.noArgument("value " + no, x, () -> x.set(2, 0, no));
      Checks.noArgument("value " + no + ", no place", x, () -> x.set(2, 4, no));
      Checks.noArgument("value " + no + " of an empty one", x, () -> x.set(0, 0, no));
    }
  }

  private static void copies() {
    Sentences.holds(10, "Returns how many PAIRS it has", TableBoundaries::copyReturns);
    Sentences.holds(10, "if there is no such TABLE (both)", TableBoundaries::copyOfNoTable);
  }

  private static void copyReturns() {
    Lastasked x = Edges.allKeys();
    Checks.same("all keys", x.copy(2, 0), 20);
    Checks.same("all keys of itself", x.copy(2, 2), 20);
    Checks.same("none", x.copy(1, 0), 0);
    Checks.same("none of itself", x.copy(1, 1), 0);
    x.put(1, 1, 1);
    Checks.same("one, into more", x.copy(1, 2), 1);
    x.make(3, true, 12);
    Checks.same("one, into one with a most", x.copy(1, 3), 1);
  }

  private static void copyOfNoTable() {
    Lastasked x = Edges.four();
    for (int no : Edges.NO_TABLES) {
      Checks.noPlace("of table " + no, x, () -> x.copy(no, 2));
      Checks.noPlace("into table " + no, x, () -> x.copy(2, no));
      Checks.noPlace("of and into table " + no, x, () -> x.copy(no, no));
    }
  }

  private static void looksAtKeys() {
    Sentences.holds(11, "Returns whether it is there", TableBoundaries::hasReturns);
    Sentences.holds(11, NO_SUCH_TABLE, TableBoundaries::hasOfNoTable);
    Sentences.holds(11, "key is not 0 to 19", TableBoundaries::hasOfNoKey);
    Sentences.holds(12, "Returns how many PAIRS it has", TableBoundaries::sizeReturns);
    Sentences.holds(12, NO_SUCH_TABLE, TableBoundaries::sizeOfNoTable);
    Sentences.holds(16, "Returns the place of it", TableBoundaries::placeOfReturns);
    Sentences.holds(16, "NONE if it is not there", TableBoundaries::placeOfNone);
    Sentences.holds(16, NO_SUCH_TABLE, TableBoundaries::placeOfNoTable);
    Sentences.holds(16, "key is not 0 to 19", TableBoundaries::placeOfNoKey);
  }

  private static void hasReturns() {
    Lastasked x = Edges.filled(true, 2, 3);
    Checks.no("lost", x.has(2, 1));
    Checks.yes("first", x.has(2, 2));
    Checks.yes("last", x.has(2, 3));
    x.put(2, 3, 0);
    Checks.yes("with a value 0", x.has(2, 3));
    x.remove(2, 3);
    Checks.no("removed", x.has(2, 3));
    Checks.no("key 0, never put", x.has(2, 0));
    Checks.no("empty", x.has(0, 0));
    x.clear(2);
    Checks.no("cleared", x.has(2, 2));
  }

  private static void hasOfNoTable() {
    Lastasked x = Edges.four();
    for (int no : Edges.NO_TABLES) {
      Checks.noPlace("table " + no, x, () -> x.has(no, 1));
      Checks.noPlace("table " + no + ", no key", x, () -> x.has(no, 20));
    }
  }

  private static void hasOfNoKey() {
    Lastasked x = Edges.allKeys();
    for (int no : Edges.NO_KEYS) {
      Checks.noArgument("key " + no, x, () -> x.has(2, no));
      Checks.noArgument("key " + no + " of an empty one", x, () -> x.has(0, no));
    }
  }

  private static void sizeReturns() {
    Lastasked x = new Lastasked();
    Checks.same("empty", x.size(2), 0);
    for (int key = 0; key < 20; key++) {
      x.put(2, key, key);
      Checks.same("then", x.size(2), key + 1);
    }
    x.put(2, 0, 5);
    Checks.same("no more than all keys", x.size(2), 20);
    x.make(2, false, 12);
    for (int key = 0; key < 20; key++) {
      x.put(2, key, key);
      Checks.same("up to its MOST", x.size(2), Math.min(key + 1, 12));
    }
  }

  private static void sizeOfNoTable() {
    Lastasked x = Edges.four();
    for (int no : Edges.NO_TABLES) {
      Checks.noPlace("table " + no, x, () -> x.size(no));
    }
  }

  private static void placeOfReturns() {
    Lastasked x = Edges.allKeys();
    Checks.same("first", x.placeOf(2, 0), 0);
    Checks.same("last", x.placeOf(2, 19), 19);
    x.get(2, 0);
    Checks.same("gone to the end", x.placeOf(2, 0), 19);
    Checks.same("moved up", x.placeOf(2, 19), 18);
  }

  private static void placeOfNone() {
    Lastasked x = Edges.filled(false, 2, 3);
    Checks.same("lost", x.placeOf(2, 1), -1);
    Checks.same("key 0, never put", x.placeOf(2, 0), -1);
    x.remove(2, 3);
    Checks.same("removed", x.placeOf(2, 3), -1);
    Checks.same("empty", x.placeOf(0, 0), -1);
    Checks.same("is no refusal", x.house(3), 0);
  }

  private static void placeOfNoTable() {
    Lastasked x = Edges.four();
    for (int no : Edges.NO_TABLES) {
      Checks.noPlace("table " + no, x, () -> x.placeOf(no, 1));
      Checks.noPlace("table " + no + ", no key", x, () -> x.placeOf(no, 20));
    }
  }

  private static void placeOfNoKey() {
    Lastasked x = Edges.allKeys();
    for (int no : Edges.NO_KEYS) {
      Checks.noArgument("key " + no, x, () -> x.placeOf(2, no));
      Checks.noArgument("key " + no + " of an empty one", x, () -> x.placeOf(0, no));
    }
  }

  private static void looksAtPlaces() {
    Sentences.holds(13, "Returns the KEY there", TableBoundaries::keyAtReturns);
    Sentences.holds(13, "NONE without", TableBoundaries::keyAtNone);
    Sentences.holds(13, NO_SUCH_TABLE, TableBoundaries::keyAtOfNoTable);
    Sentences.holds(14, "Returns the VALUE there", TableBoundaries::valueAtReturns);
    Sentences.holds(14, "NONE without", TableBoundaries::valueAtNone);
    Sentences.holds(14, NO_SUCH_TABLE, TableBoundaries::valueAtOfNoTable);
    Sentences.holds(15, "Returns KEY * 100 + VALUE of the PAIR there",
        TableBoundaries::pairAtReturns);
    Sentences.holds(15, "NONE without", TableBoundaries::pairAtNone);
    Sentences.holds(15, NO_SUCH_TABLE, TableBoundaries::pairAtOfNoTable);
  }

  private static void keyAtReturns() {
    Lastasked x = Edges.allKeys();
    Checks.same("first place", x.keyAt(2, 0), 0);
    Checks.same("last place", x.keyAt(2, 19), 19);
  }

  private static void keyAtNone() {
    Lastasked x = Edges.allKeys();
    for (int no : Edges.NO_KEYS) {
      Checks.same("place " + no, x.keyAt(2, no), -1);
    }
    Checks.same("empty", x.keyAt(0, 0), -1);
    x.remove(2, 19);
    Checks.same("a place that was there", x.keyAt(2, 19), -1);
    x.clear(2);
    Checks.same("the first place, cleared", x.keyAt(2, 0), -1);
    Checks.same("is no refusal", x.house(3), 0);
  }

  private static void keyAtOfNoTable() {
    Lastasked x = Edges.four();
    for (int no : Edges.NO_TABLES) {
      Checks.noPlace("table " + no, x, () -> x.keyAt(no, 0));
      Checks.noPlace("table " + no + ", no place", x, () -> x.keyAt(no, 9));
    }
  }

  private static void valueAtReturns() {
    Lastasked x = Edges.allKeys();
    x.put(2, 19, 0);
    Checks.same("first place", x.valueAt(2, 0), 99);
    Checks.same("last place", x.valueAt(2, 19), 0);
  }

  private static void valueAtNone() {
    Lastasked x = Edges.allKeys();
    for (int no : Edges.NO_KEYS) {
      Checks.same("place " + no, x.valueAt(2, no), -1);
    }
    Checks.same("empty", x.valueAt(0, 0), -1);
    x.remove(2, 19);
    Checks.same("a place that was there", x.valueAt(2, 19), -1);
    x.clear(2);
    Checks.same("the first place, cleared", x.valueAt(2, 0), -1);
    Checks.same("is no refusal", x.house(3), 0);
  }

  private static void valueAtOfNoTable() {
    Lastasked x = Edges.four();
    for (int no : Edges.NO_TABLES) {
      Checks.noPlace("table " + no, x, () -> x.valueAt(no, 0));
      Checks.noPlace("table " + no + ", no place", x, () -> x.valueAt(no, 9));
    }
  }

  private static void pairAtReturns() {
    Lastasked x = Edges.allKeys();
    Checks.same("key 0", x.pairAt(2, 0), 99);
    Checks.same("the greatest", x.pairAt(2, 19), 1999);
    x.put(0, 0, 0);
    Checks.same("the least", x.pairAt(0, 0), 0);
    x.put(0, 19, 0);
    Checks.same("value 0", x.pairAt(0, 1), 1900);
  }

  private static void pairAtNone() {
    Lastasked x = Edges.allKeys();
    for (int no : Edges.NO_KEYS) {
      Checks.same("place " + no, x.pairAt(2, no), -1);
    }
    Checks.same("empty", x.pairAt(0, 0), -1);
    x.remove(2, 19);
    Checks.same("a place that was there", x.pairAt(2, 19), -1);
    x.clear(2);
    Checks.same("the first place, cleared", x.pairAt(2, 0), -1);
    Checks.same("is no refusal", x.house(3), 0);
  }

  private static void pairAtOfNoTable() {
    Lastasked x = Edges.four();
    for (int no : Edges.NO_TABLES) {
      Checks.noPlace("table " + no, x, () -> x.pairAt(no, 0));
      Checks.noPlace("table " + no + ", no place", x, () -> x.pairAt(no, 9));
    }
  }

  private static void looksAtEnds() {
    Sentences.holds(17, "Returns the KEY of the first PAIR", TableBoundaries::eldestReturns);
    Sentences.holds(17, "NONE without", TableBoundaries::eldestNone);
    Sentences.holds(17, NO_SUCH_TABLE, TableBoundaries::eldestOfNoTable);
    Sentences.holds(18, "Returns the KEY of the last PAIR", TableBoundaries::latestReturns);
    Sentences.holds(18, "NONE without", TableBoundaries::latestNone);
    Sentences.holds(18, NO_SUCH_TABLE, TableBoundaries::latestOfNoTable);
  }

  private static void eldestReturns() {
    Lastasked x = Edges.allKeys();
    Checks.same("key 0", x.eldest(2), 0);
    x.get(2, 0);
    Checks.same("gone to the end", x.eldest(2), 1);
    x.put(0, 19, 0);
    Checks.same("of one", x.eldest(0), 19);
    Lastasked y = Edges.filled(false, 1, 3);
    Checks.same("with MOST 1", y.eldest(2), 3);
  }

  private static void eldestNone() {
    Lastasked x = Edges.filled(false, -1, 1);
    Checks.same("empty", x.eldest(0), -1);
    x.remove(2, 1);
    Checks.same("the only one removed", x.eldest(2), -1);
    Checks.same("is no refusal", x.house(3), 0);
  }

  private static void eldestOfNoTable() {
    Lastasked x = Edges.four();
    for (int no : Edges.NO_TABLES) {
      Checks.noPlace("table " + no, x, () -> x.eldest(no));
    }
  }

  private static void latestReturns() {
    Lastasked x = Edges.allKeys();
    Checks.same("key 19", x.latest(2), 19);
    x.get(2, 0);
    Checks.same("gone to the end", x.latest(2), 0);
    x.put(0, 19, 0);
    Checks.same("of one", x.latest(0), 19);
    Lastasked y = Edges.filled(false, 1, 3);
    Checks.same("with MOST 1", y.latest(2), 3);
  }

  private static void latestNone() {
    Lastasked x = Edges.filled(false, -1, 1);
    Checks.same("empty", x.latest(0), -1);
    x.remove(2, 1);
    Checks.same("the only one removed", x.latest(2), -1);
    Checks.same("is no refusal", x.house(3), 0);
  }

  private static void latestOfNoTable() {
    Lastasked x = Edges.four();
    for (int no : Edges.NO_TABLES) {
      Checks.noPlace("table " + no, x, () -> x.latest(no));
    }
  }

  private static void looksAtAll() {
    Sentences.holds(19, "0 KEYS, 1 VALUES, 2 PAIRS as \"KEY=VALUE\"", TableBoundaries::textKinds);
    Sentences.holds(19, "Returns all of them, with \" \" between two", TableBoundaries::textReturns);
    Sentences.holds(19, "\"\" without", TableBoundaries::textNone);
    Sentences.holds(19, NO_SUCH_TABLE, TableBoundaries::textOfNoTable);
    Sentences.holds(19, "what is not 0 to 2", TableBoundaries::textOfNoKind);
    Sentences.holds(20, "0 1 if BY ASKING, otherwise 0", TableBoundaries::ofTableKind);
    Sentences.holds(20, "1 MOST (NONE)", TableBoundaries::ofTableMost);
    Sentences.holds(20, "2 how many PAIRS were LOST since it was made (or copied into)",
        TableBoundaries::ofTableLostMany);
    Sentences.holds(20, "3 the KEY of the last one of these (NONE)",
        TableBoundaries::ofTableLostLast);
    Sentences.holds(20, "4 the sum of its VALUES", TableBoundaries::ofTableSum);
    Sentences.holds(20, NO_SUCH_TABLE, TableBoundaries::ofTableOfNoTable);
    Sentences.holds(20, "what is not 0 to 4", TableBoundaries::ofTableOfNoKind);
  }

  private static void textKinds() {
    Lastasked x = new Lastasked();
    x.put(2, 0, 99);
    x.put(2, 19, 0);
    Checks.same("keys", x.text(2, 0), "0 19");
    Checks.same("values", x.text(2, 1), "99 0");
    Checks.same("pairs", x.text(2, 2), "0=99 19=0");
  }

  private static void textReturns() {
    Lastasked x = Edges.allKeys();
    Checks.same("all keys", x.text(2, 0), "0 1 2 3 4 5 6 7 8 9 10 11 12 13 14 15 16 17 18 19");
    Checks.same("all values", x.text(2, 1), "99" + " 99".repeat(19));
    Checks.same("all pairs", x.text(2, 2).length(), 10 * 4 + 10 * 5 + 19);
    x.put(0, 7, 5);
    Checks.same("one key", x.text(0, 0), "7");
    Checks.same("one value", x.text(0, 1), "5");
    Checks.same("one pair", x.text(0, 2), "7=5");
  }

  private static void textNone() {
    Lastasked x = Edges.four();
    x.clear(2);
    for (int what = 0; what <= 2; what++) {
      Checks.same("empty", x.text(0, what), "");
      Checks.same("cleared", x.text(2, what), "");
    }
  }

  private static void textOfNoTable() {
    Lastasked x = Edges.four();
    for (int no : Edges.NO_TABLES) {
      Checks.noPlace("table " + no, x, () -> x.text(no, 0));
      Checks.noPlace("table " + no + ", no kind", x, () -> x.text(no, 3));
    }
  }

  private static void textOfNoKind() {
    Lastasked x = Edges.four();
    for (int no : Edges.NO_THREE) {
      Checks.noArgument("kind " + no, x, () -> x.text(2, no));
      Checks.noArgument("kind " + no + " of an empty one", x, () -> x.text(0, no));
    }
  }

  private static void ofTableKind() {
    Lastasked x = new Lastasked();
    Checks.same("new", x.ofTable(2, 0), 0);
    x.make(2, true, -1);
    Checks.same("by asking", x.ofTable(2, 0), 1);
    x.make(2, false, 1);
    Checks.same("by putting", x.ofTable(2, 0), 0);
  }

  private static void ofTableMost() {
    Lastasked x = new Lastasked();
    Checks.same("new", x.ofTable(2, 1), -1);
    x.make(2, false, 12);
    Checks.same("the greatest", x.ofTable(2, 1), 12);
    x.make(2, false, 1);
    Checks.same("the least", x.ofTable(2, 1), 1);
    x.make(2, true, -1);
    Checks.same("none", x.ofTable(2, 1), -1);
  }

  private static void ofTableLostMany() {
    Lastasked x = Edges.filled(false, 2, 2);
    Checks.same("just full", x.ofTable(2, 2), 0);
    x.put(2, 3, 3);
    Checks.same("one more", x.ofTable(2, 2), 1);
    x.remove(2, 3);
    x.put(2, 2, 2);
    Checks.same("none by a remove or a put of one there", x.ofTable(2, 2), 1);
    x.walk(2, 0);
    x.step(2);
    x.cut(2);
    x.clear(2);
    Checks.same("none by a cut or a clear", x.ofTable(2, 2), 1);
    Checks.same("each table on its own", x.ofTable(1, 2), 0);
    x.copy(2, 1);
    Checks.same("none of the copy", x.ofTable(1, 2), 0);
    x.copy(1, 2);
    Checks.same("none when copied into", x.ofTable(2, 2), 0);
    Lastasked y = Edges.filled(true, 1, 19);
    Checks.same("many", y.ofTable(2, 2), 18);
    y.make(2, true, 1);
    Checks.same("none when made", y.ofTable(2, 2), 0);
  }

  private static void ofTableLostLast() {
    Lastasked x = new Lastasked();
    x.make(2, true, 1);
    x.put(2, 0, 5);
    Checks.same("just full", x.ofTable(2, 3), -1);
    x.put(2, 19, 5);
    Checks.same("key 0", x.ofTable(2, 3), 0);
    x.put(2, 7, 5);
    Checks.same("key 19", x.ofTable(2, 3), 19);
    x.remove(2, 7);
    x.clear(2);
    Checks.same("not by a remove or a clear", x.ofTable(2, 3), 19);
    Checks.same("each table on its own", x.ofTable(1, 3), -1);
    x.make(2, true, 1);
    Checks.same("none when made", x.ofTable(2, 3), -1);
    x.put(2, 1, 1);
    x.put(2, 2, 2);
    x.copy(1, 2);
    Checks.same("none when copied into", x.ofTable(2, 3), -1);
  }

  private static void ofTableSum() {
    Lastasked x = Edges.allKeys();
    Checks.same("the greatest", x.ofTable(2, 4), 1980);
    Checks.same("empty", x.ofTable(0, 4), 0);
    x.remove(2, 0);
    Checks.same("one less", x.ofTable(2, 4), 1881);
    x.set(2, 0, 0);
    Checks.same("set", x.ofTable(2, 4), 1782);
    x.clear(2);
    Checks.same("cleared", x.ofTable(2, 4), 0);
    Lastasked y = Edges.filled(false, 2, 3);
    Checks.same("without what was lost", y.ofTable(2, 4), 50);
  }

  private static void ofTableOfNoTable() {
    Lastasked x = Edges.four();
    for (int no : Edges.NO_TABLES) {
      Checks.noPlace("table " + no, x, () -> x.ofTable(no, 0));
      Checks.noPlace("table " + no + ", no kind", x, () -> x.ofTable(no, 5));
    }
  }

  private static void ofTableOfNoKind() {
    Lastasked x = Edges.four();
    for (int no : Edges.NO_FIVE) {
      Checks.noArgument("kind " + no, x, () -> x.ofTable(2, no));
      Checks.noArgument("kind " + no + " of an empty one", x, () -> x.ofTable(0, no));
    }
  }
}

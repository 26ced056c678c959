/** The edges that the description and promises 27 to 42 name of askings. */
final class AskingBoundaries {
  private AskingBoundaries() {}

  static void all() {
    stackAndKeepers();
    asks();
    rows();
    forgets();
    looksAtAskings();
    looksAtStack();
    looksAtKeepers();
    counts();
    bests();
  }

  private static void says(String words, Runnable test) {
    Sentences.holds(Sentences.DESCRIPTION, words, test);
  }

  private static void stackAndKeepers() {
    says("The row of ASKINGS: KEYS, at most 60", AskingBoundaries::atMostSixty);
    says("(none at first)", AskingBoundaries::noneAtFirst);
    says("The STACK and the KEEPERS of the sizes 1 to 6 are TABLES of their own",
        AskingBoundaries::tablesOfTheirOwn);
    says("BY ASKING, empty at first", AskingBoundaries::byAskingAndEmpty);
    says("a KEEPER has its size as MOST", AskingBoundaries::sizeAsMost);
    says("the STACK none", AskingBoundaries::stackWithoutMost);
    says("counted from the last (1) on", AskingBoundaries::depthFromLast);
    says("0 if it is not there", AskingBoundaries::depthOfNone);
    says("Of each KEEPER it is a HIT if it holds the KEY, otherwise a miss",
        AskingBoundaries::hitOrMiss);
    says("a HIT is got there", AskingBoundaries::hitIsGot);
    says("after a miss it is put, with the number of the ASKING (from 0 on) as VALUE",
        AskingBoundaries::missIsPut);
    says("the STACK likewise", AskingBoundaries::stackLikewise);
  }

  private static void atMostSixty() {
    Lastasked x = Edges.rounds(59);
    Checks.same("59", x.asked(), 59);
    x.ask(19);
    Checks.same("the 60th", x.asked(), 60);
    Checks.same("which it is", x.askedAt(59), 19);
    Checks.noState("no 61st", x, () -> x.ask(0));
    Checks.noState("nor in a row", x, () -> x.askRow(0, 1, 1));
  }

  private static void noneAtFirst() {
    Lastasked x = new Lastasked();
    Checks.same("asked", x.asked(), 0);
    Checks.same("house", x.house(1), 0);
    Checks.same("askedAt", x.askedAt(0), -1);
    Checks.same("depthAt", x.depthAt(0), -1);
    Checks.same("withDepth", x.withDepth(0), 0);
  }

  private static void tablesOfTheirOwn() {
    Lastasked x = Edges.four();
    x.walk(2, 0);
    x.askRow(0, 1, 12);
    Checks.same("table 2 stays", x.text(2, 2), "1=10 2=20 3=30 4=40");
    Checks.same("all tables stay", x.house(0), 4);
    Checks.no("no walk is stale by asking", x.isStale(2));
    x.clear(2);
    x.put(2, 0, 0);
    x.remove(2, 0);
    Checks.same("the stack stays", x.stack(), "0 1 2 3 4 5 6 7 8 9 10 11");
    Checks.same("the keepers stay", x.kept(3), "9 10 11");
    Checks.same("keeper 1 is the least", x.kept(1), "11");
    Checks.same("keeper 6 is the greatest", x.kept(6), "6 7 8 9 10 11");
  }

  private static void byAskingAndEmpty() {
    Lastasked x = new Lastasked();
    Checks.same("stack at first", x.stack(), "");
    for (int size = 1; size <= 6; size++) {
      Checks.same("keeper at first", x.kept(size), "");
    }
    x.askRow(0, 1, 3);
    x.ask(0);
    Checks.same("stack by asking", x.stack(), "1 2 0");
    Checks.same("keeper 3 by asking", x.kept(3), "1 2 0");
    x.ask(3);
    Checks.same("the first one then is let go", x.kept(3), "2 0 3");
    Checks.same("that was 1", x.lost(3), 1);
  }

  private static void sizeAsMost() {
    for (int size = 1; size <= 6; size++) {
      Lastasked x = new Lastasked();
      x.askRow(0, 1, size);
      Checks.same("just full", x.kept(size), x.stack());
      Checks.same("none let go yet", x.lost(size), -1);
      x.ask(19);
      Checks.no("one more lets the first go", x.keeps(size, 0));
      Checks.same("that is told", x.lost(size), 0);
      Checks.yes("the new one is kept", x.keeps(size, 19));
      Checks.same("all that were asked were misses", x.misses(size), size + 1);
    }
  }

  private static void stackWithoutMost() {
    Lastasked x = Edges.rounds(20);
    Checks.same("all keys", x.house(2), 20);
    Checks.same("the first one is there", x.depth(0), 20);
    x.ask(0);
    Checks.same("no more than all keys", x.house(2), 20);
    Checks.same("the first one goes to the end", x.depth(0), 1);
  }

  private static void depthFromLast() {
    Lastasked x = Edges.rounds(20);
    for (int key = 0; key < 20; key++) {
      Checks.same("key " + key, x.depth(key), 20 - key);
    }
    x.ask(19);
    Checks.same("the last one", x.depthAt(20), 1);
    x.ask(18);
    Checks.same("the one before", x.depthAt(21), 2);
    x.ask(0);
    Checks.same("the first one", x.depthAt(22), 20);
  }

  private static void depthOfNone() {
    Lastasked x = new Lastasked();
    Checks.same("empty", x.depth(0), 0);
    x.ask(0);
    Checks.same("the first asking had none", x.depthAt(0), 0);
    Checks.same("not there", x.depth(1), 0);
    x.ask(1);
    Checks.same("that asking had none", x.depthAt(1), 0);
    x.forget();
    Checks.same("forgotten", x.depth(0), 0);
  }

  private static void hitOrMiss() {
    // Behind an asking of DEPTH d, just the keepers of the size d and above held the key.
    for (int depth = 1; depth <= 7; depth++) {
      Lastasked x = new Lastasked();
      x.askRow(0, 1, depth);
      Checks.same("depth " + depth, x.ask(0), 7 - depth);
      for (int size = 1; size <= 6; size++) {
        boolean isHit = size >= depth;
        Checks.same("hits of " + size, x.hits(size), isHit ? 1 : 0);
        Checks.same("misses of " + size, x.misses(size), isHit ? depth : depth + 1);
      }
    }
  }

  private static void hitIsGot() {
    Lastasked x = Edges.asking(0, 1, 2, 0);
    Checks.same("goes to the end", x.kept(3), "1 2 0");
    Checks.same("keeps its VALUE", x.takenAt(3, 0), 0);
    Checks.same("no other goes", x.lost(3), -1);
    x.ask(0);
    Checks.same("the last one stays the last", x.kept(3), "1 2 0");
    Checks.same("and keeps its VALUE", x.takenAt(3, 0), 0);
    Checks.same("taken in anew at 2", x.takenAt(2, 0), 3);
  }

  private static void missIsPut() {
    Lastasked x = Edges.asking(5);
    for (int size = 1; size <= 6; size++) {
      Checks.same("the first asking, 0", x.takenAt(size, 5), 0);
    }
    Lastasked y = Edges.rounds(59);
    y.ask(0);
    for (int size = 1; size <= 6; size++) {
      Checks.same("the last asking, 59", y.takenAt(size, 0), 59);
    }
    y.forget();
    y.ask(0);
    Checks.same("from 0 on again", y.takenAt(1, 0), 0);
  }

  private static void stackLikewise() {
    Lastasked x = Edges.asking(3, 4, 3, 5, 3);
    Checks.same("got or put", x.stack(), "4 5 3");
    Checks.same("each key once", x.house(2), 3);
  }

  private static void asks() {
    Sentences.holds(27, "Returns of how many KEEPERS it was a HIT", AskingBoundaries::askReturns);
    Sentences.holds(27, "key is not 0 to 19", AskingBoundaries::askOfNoKey);
    Sentences.holds(27, "if there are 60 ASKINGS", AskingBoundaries::askWhenFull);
  }

  private static void askReturns() {
    Lastasked x = new Lastasked();
    Checks.same("empty", x.ask(0), 0);
    Checks.same("all six", x.ask(0), 6);
    Checks.same("none of a new one", x.ask(19), 0);
    Lastasked y = Edges.rounds(6);
    Checks.same("just the greatest", y.ask(0), 1);
    Lastasked z = Edges.rounds(7);
    Checks.same("no longer any", z.ask(0), 0);
  }

  private static void askOfNoKey() {
    Lastasked x = Edges.rounds(20);
    for (int no : Edges.NO_KEYS) {
      Checks.noArgument("key " + no, x, () -> x.ask(no));
    }
    Lastasked y = Edges.rounds(60);
    Checks.noArgument("ahead of there being 60", y, () -> y.ask(-1));
  }

  private static void askWhenFull() {
    Lastasked x = Edges.rounds(60);
    for (int key = 0; key < 20; key++) {
      int asked = key;
      Checks.noState("key " + key, x, () -> x.ask(asked));
    }
    x.forget();
    Checks.same("forgotten", x.ask(0), 0);
  }

  private static void rows() {
    Sentences.holds(28, "ASKS first, first + step, and so on", AskingBoundaries::asksInRow);
    Sentences.holds(28, "each by its rest by 20", AskingBoundaries::restByTwenty);
    Sentences.holds(28, "any number from 0 to 19", AskingBoundaries::eachStep);
    Sentences.holds(28, "Returns how many HITS there were, of all KEEPERS together",
        AskingBoundaries::askRowReturns);
    Sentences.holds(28, "if first", AskingBoundaries::askRowFromNoKey);
    Sentences.holds(28, "or step is not 0 to 19", AskingBoundaries::askRowByNoStep);
    Sentences.holds(28, "or many not 1 to 12", AskingBoundaries::askRowOfNoNumber);
    Sentences.holds(28, "if there would be more than 60 ASKINGS",
        AskingBoundaries::askRowWhenFull);
  }

  private static void asksInRow() {
    Lastasked x = new Lastasked();
    x.askRow(2, 3, 4);
    int[] due = {2, 5, 8, 11};
    for (int nth = 0; nth < 4; nth++) {
      Checks.same("asking " + nth, x.askedAt(nth), due[nth]);
    }
    Checks.same("as many as told", x.asked(), 4);
    x.askRow(7, 5, 1);
    Checks.same("just the first", x.askedAt(4), 7);
    Checks.same("one", x.asked(), 5);
    x.askRow(0, 1, 12);
    Checks.same("twelve", x.asked(), 17);
    Checks.same("the twelfth", x.askedAt(16), 11);
  }

  private static void restByTwenty() {
    Lastasked x = new Lastasked();
    x.askRow(18, 1, 4);
    int[] due = {18, 19, 0, 1};
    for (int nth = 0; nth < 4; nth++) {
      Checks.same("by 1, asking " + nth, x.askedAt(nth), due[nth]);
    }
    x.askRow(10, 10, 3);
    Checks.same("just 20 is 0", x.askedAt(5), 0);
    Checks.same("just 30 is 10", x.askedAt(6), 10);
    x.forget();
    // The greatest is 19 + 11 * 19, which goes round more than ten times.
    x.askRow(19, 19, 12);
    for (int nth = 0; nth < 12; nth++) {
      Checks.same("by 19, asking " + nth, x.askedAt(nth), 19 - nth);
    }
  }

  private static void eachStep() {
    for (int step = 0; step < 20; step++) {
      Lastasked x = new Lastasked();
      x.askRow(1, step, 2);
      Checks.same("by " + step, x.askedAt(1), (1 + step) % 20);
    }
    Lastasked y = new Lastasked();
    y.askRow(5, 0, 12);
    Checks.same("by 0, always the same", y.stack(), "5");
    Checks.same("by 0, all of them", y.asked(), 12);
  }

  private static void askRowReturns() {
    Lastasked x = new Lastasked();
    Checks.same("new ones", x.askRow(0, 1, 12), 0);
    Checks.same("each of six keepers", x.askRow(11, 0, 12), 72);
    x.forget();
    Checks.same("by one of twelve not", x.askRow(11, 0, 12), 66);
    Checks.same("one alone", x.askRow(11, 0, 1), 6);
    x.forget();
    x.askRow(0, 1, 6);
    Checks.same("one keeper at a time", x.askRow(0, 1, 6), 6);
    x.forget();
    x.askRow(0, 1, 7);
    Checks.same("none of seven", x.askRow(0, 1, 7), 0);
  }

  private static void askRowFromNoKey() {
    Lastasked x = Edges.rounds(20);
    for (int no : Edges.NO_KEYS) {
      Checks.noArgument("first " + no, x, () -> x.askRow(no, 1, 1));
    }
  }

  private static void askRowByNoStep() {
    Lastasked x = Edges.rounds(20);
    for (int no : Edges.NO_KEYS) {
      Checks.noArgument("step " + no, x, () -> x.askRow(1, no, 1));
    }
  }

  private static void askRowOfNoNumber() {
    Lastasked x = Edges.rounds(20);
    for (int no : new int[] {0, 13, -1, Edges.LEAST, Edges.GREATEST}) {
      Checks.noArgument("many " + no, x, () -> x.askRow(1, 1, no));
    }
    Lastasked y = Edges.rounds(60);
    Checks.noArgument("ahead of there being 60", y, () -> y.askRow(1, 1, 13));
    Checks.noArgument("none, though there are 60", y, () -> y.askRow(1, 1, 0));
  }

  private static void askRowWhenFull() {
    Lastasked x = Edges.rounds(49);
    Checks.noState("61 with twelve", x, () -> x.askRow(0, 1, 12));
    Checks.same("none of them is asked", x.asked(), 49);
    x.askRow(9, 1, 11);
    Checks.same("just 60", x.asked(), 60);
    Checks.noState("one more", x, () -> x.askRow(0, 1, 1));
    Checks.noState("twelve more", x, () -> x.askRow(0, 1, 12));
    Lastasked y = Edges.rounds(59);
    Checks.noState("61 with two", y, () -> y.askRow(0, 1, 2));
    y.askRow(19, 1, 1);
    Checks.same("60 with one", y.asked(), 60);
    Lastasked z = Edges.rounds(48);
    z.askRow(0, 1, 12);
    Checks.same("60 with twelve", z.asked(), 60);
  }

  private static void forgets() {
    Sentences.holds(29, "All ASKINGS go", AskingBoundaries::forgetsAll);
    Sentences.holds(29, "the STACK and the KEEPERS are as at first: empty",
        AskingBoundaries::forgetsKept);
    Sentences.holds(29, "without HITS and misses", AskingBoundaries::forgetsHits);
    Sentences.holds(29, "and nothing was let go", AskingBoundaries::forgetsLost);
    Sentences.holds(29, "Returns how many ASKINGS there were", AskingBoundaries::forgetReturns);
  }

  private static void forgetsAll() {
    Lastasked x = Edges.rounds(60);
    x.forget();
    Checks.same("asked", x.asked(), 0);
    Checks.same("askedAt", x.askedAt(0), -1);
    Checks.same("depthAt", x.depthAt(0), -1);
    Checks.same("withDepth 0", x.withDepth(0), 0);
    Checks.same("withDepth 20", x.withDepth(20), 0);
    for (int size = 1; size <= 6; size++) {
      Checks.same("best", x.best(size), 0);
    }
    Checks.same("as a new one", x.digest(), new Lastasked().digest());
    for (int i = 0; i < 5; i++) {
      x.askRow(0, 1, 12);
    }
    Checks.same("room for 60 again", x.asked(), 60);
  }

  private static void forgetsKept() {
    Lastasked x = Edges.rounds(60);
    x.forget();
    Checks.same("stack", x.stack(), "");
    Checks.same("house", x.house(2), 0);
    for (int size = 1; size <= 6; size++) {
      Checks.same("kept", x.kept(size), "");
      for (int key = 0; key < 20; key++) {
        Checks.no("keeps", x.keeps(size, key));
        Checks.same("takenAt", x.takenAt(size, key), -1);
      }
    }
    x.askRow(0, 1, 7);
    Checks.same("each with its size as before", x.kept(6), "1 2 3 4 5 6");
    Checks.same("by asking as before", x.ask(1), 1);
    Checks.same("the stack by asking as before", x.stack(), "0 2 3 4 5 6 1");
    Checks.same("the keepers too", x.kept(6), "2 3 4 5 6 1");
  }

  private static void forgetsHits() {
    Lastasked x = Edges.asking(0, 0, 0, 1, 0, 1);
    x.forget();
    for (int size = 1; size <= 6; size++) {
      Checks.same("hits", x.hits(size), 0);
      Checks.same("misses", x.misses(size), 0);
    }
    Checks.same("a miss again", x.ask(0), 0);
    Checks.same("the first one", x.misses(1), 1);
  }

  private static void forgetsLost() {
    Lastasked x = Edges.rounds(20);
    x.forget();
    for (int size = 1; size <= 6; size++) {
      Checks.same("lost", x.lost(size), -1);
    }
    x.ask(0);
    Checks.same("none by the first again", x.lost(1), -1);
  }

  private static void forgetReturns() {
    Lastasked x = new Lastasked();
    Checks.same("none", x.forget(), 0);
    x.ask(0);
    Checks.same("one", x.forget(), 1);
    Checks.same("forgotten before", x.forget(), 0);
    Lastasked y = Edges.rounds(60);
    Checks.same("60", y.forget(), 60);
    Checks.same("no more of 60", y.forget(), 0);
  }

  private static void looksAtAskings() {
    Sentences.holds(30, "Returns how many ASKINGS there are", AskingBoundaries::askedReturns);
    Sentences.holds(31, "Returns its KEY", AskingBoundaries::askedAtReturns);
    Sentences.holds(31, "NONE without", AskingBoundaries::askedAtNone);
    Sentences.holds(32, "Returns its DEPTH", AskingBoundaries::depthAtReturns);
    Sentences.holds(32, "NONE without such a one", AskingBoundaries::depthAtNone);
    Sentences.holds(41, "Returns how many ASKINGS had that DEPTH", AskingBoundaries::withDepths);
  }

  private static void askedReturns() {
    Lastasked x = new Lastasked();
    Checks.same("none", x.asked(), 0);
    for (int many = 1; many <= 60; many++) {
      x.ask(many % 20);
      Checks.same("then", x.asked(), many);
    }
  }

  private static void askedAtReturns() {
    Lastasked x = Edges.rounds(60);
    for (int nth = 0; nth < 60; nth++) {
      Checks.same("asking " + nth, x.askedAt(nth), nth % 20);
    }
  }

  private static void askedAtNone() {
    Lastasked x = Edges.rounds(60);
    for (int no : new int[] {-1, 60, Edges.LEAST, Edges.GREATEST}) {
      Checks.same("asking " + no, x.askedAt(no), -1);
    }
    x.forget();
    Checks.same("one that was there", x.askedAt(59), -1);
    x.ask(5);
    Checks.same("the only one", x.askedAt(0), 5);
    Checks.same("behind the last", x.askedAt(1), -1);
    Checks.same("is no refusal", x.house(3), 0);
  }

  private static void depthAtReturns() {
    Lastasked x = Edges.rounds(60);
    for (int nth = 0; nth < 60; nth++) {
      Checks.same("asking " + nth, x.depthAt(nth), nth < 20 ? 0 : 20);
    }
    Lastasked y = Edges.asking(7, 7);
    Checks.same("the least of one there", y.depthAt(1), 1);
    y.askRow(8, 1, 3);
    Checks.same("stays what it was", y.depthAt(1), 1);
  }

  private static void depthAtNone() {
    Lastasked x = Edges.rounds(60);
    for (int no : new int[] {-1, 60, Edges.LEAST, Edges.GREATEST}) {
      Checks.same("asking " + no, x.depthAt(no), -1);
    }
    x.forget();
    Checks.same("one that was there", x.depthAt(59), -1);
    x.ask(5);
    Checks.same("a DEPTH 0 is not NONE", x.depthAt(0), 0);
    Checks.same("behind the last", x.depthAt(1), -1);
    Checks.same("is no refusal", x.house(3), 0);
  }

  private static void withDepths() {
    Lastasked x = Edges.rounds(60);
    Checks.same("0", x.withDepth(0), 20);
    Checks.same("20", x.withDepth(20), 40);
    for (int no : new int[] {-1, 1, 19, 21, 60, Edges.LEAST, Edges.GREATEST}) {
      Checks.same("none of " + no, x.withDepth(no), 0);
    }
    Lastasked y = new Lastasked();
    Checks.same("of no askings", y.withDepth(0), 0);
    y.askRow(5, 0, 12);
    Checks.same("the first", y.withDepth(0), 1);
    Checks.same("all others", y.withDepth(1), 11);
  }

  private static void looksAtStack() {
    Sentences.holds(33, "Returns which DEPTH it would have now", AskingBoundaries::depthReturns);
    Sentences.holds(33, "key is not 0 to 19", AskingBoundaries::depthOfNoKey);
    Sentences.holds(34, "Returns the KEYS of the STACK, with \" \" between two",
        AskingBoundaries::stackReturns);
    Sentences.holds(34, "\"\" without", AskingBoundaries::stackNone);
  }

  private static void depthReturns() {
    Lastasked x = Edges.rounds(20);
    Checks.same("the last", x.depth(19), 1);
    Checks.same("the first", x.depth(0), 20);
    int due = x.depth(7);
    x.ask(7);
    Checks.same("as the asking has it", x.depthAt(20), due);
    Checks.same("then it is the last", x.depth(7), 1);
    Checks.same("it asks nothing", x.asked(), 21);
    Checks.same("not there", Edges.asking(1).depth(0), 0);
  }

  private static void depthOfNoKey() {
    Lastasked x = Edges.rounds(20);
    Lastasked y = new Lastasked();
    for (int no : Edges.NO_KEYS) {
      Checks.noArgument("key " + no, x, () -> x.depth(no));
      Checks.noArgument("key " + no + ", of an empty stack", y, () -> y.depth(no));
    }
  }

  private static void stackReturns() {
    Lastasked x = Edges.asking(19);
    Checks.same("one", x.stack(), "19");
    x.ask(0);
    Checks.same("two", x.stack(), "19 0");
    Lastasked y = Edges.rounds(60);
    Checks.same("all keys", y.stack(), "0 1 2 3 4 5 6 7 8 9 10 11 12 13 14 15 16 17 18 19");
  }

  private static void stackNone() {
    Lastasked x = new Lastasked();
    Checks.same("new", x.stack(), "");
    x.put(0, 1, 1);
    Checks.same("nothing asked", x.stack(), "");
    x.ask(1);
    x.forget();
    Checks.same("forgotten", x.stack(), "");
  }

  private static void looksAtKeepers() {
    Sentences.holds(35, "Returns the KEYS that this KEEPER holds, with \" \" between two",
        AskingBoundaries::keptReturns);
    Sentences.holds(35, "\"\" without", AskingBoundaries::keptNone);
    Sentences.holds(35, "size is not 1 to 6", AskingBoundaries::keptOfNoSize);
    Sentences.holds(36, "Returns whether this KEEPER holds it", AskingBoundaries::keepsReturns);
    Sentences.holds(36, "if size is not 1 to 6", AskingBoundaries::keepsOfNoSize);
    Sentences.holds(36, "or key not 0 to 19", AskingBoundaries::keepsOfNoKey);
    Sentences.holds(37, "(the number of the ASKING by which it was taken in)",
        AskingBoundaries::takenAtReturns);
    Sentences.holds(37, "NONE if it does not hold it", AskingBoundaries::takenAtNone);
    Sentences.holds(37, "if size is not 1 to 6", AskingBoundaries::takenAtOfNoSize);
    Sentences.holds(37, "or key not 0 to 19", AskingBoundaries::takenAtOfNoKey);
    Sentences.holds(40, "Returns the KEY that this KEEPER let go last",
        AskingBoundaries::lostReturns);
    Sentences.holds(40, "NONE without", AskingBoundaries::lostNone);
    Sentences.holds(40, "size is not 1 to 6", AskingBoundaries::lostOfNoSize);
  }

  private static void keptReturns() {
    String[] due = {"19", "18 19", "17 18 19", "16 17 18 19", "15 16 17 18 19",
        "14 15 16 17 18 19"};
    Lastasked x = Edges.rounds(60);
    for (int size = 1; size <= 6; size++) {
      Checks.same("keeper " + size, x.kept(size), due[size - 1]);
    }
    Lastasked y = Edges.asking(0, 1);
    Checks.same("full", y.kept(2), "0 1");
    Checks.same("not full", y.kept(6), "0 1");
  }

  private static void keptNone() {
    Lastasked x = new Lastasked();
    for (int size = 1; size <= 6; size++) {
      Checks.same("new", x.kept(size), "");
    }
    x.ask(0);
    x.forget();
    for (int size = 1; size <= 6; size++) {
      Checks.same("forgotten", x.kept(size), "");
    }
  }

  private static void keptOfNoSize() {
    Lastasked x = Edges.rounds(7);
    for (int no : Edges.NO_SIZES) {
      Checks.noArgument("size " + no, x, () -> x.kept(no));
    }
  }

  private static void keepsReturns() {
    Lastasked x = Edges.rounds(20);
    for (int size = 1; size <= 6; size++) {
      Checks.yes("the first it holds", x.keeps(size, 20 - size));
      Checks.no("the one let go last", x.keeps(size, 19 - size));
      Checks.yes("the last", x.keeps(size, 19));
    }
    Lastasked y = new Lastasked();
    Checks.no("empty, key 0", y.keeps(6, 0));
  }

  private static void keepsOfNoSize() {
    Lastasked x = Edges.rounds(7);
    for (int no : Edges.NO_SIZES) {
      Checks.noArgument("size " + no, x, () -> x.keeps(no, 6));
      Checks.noArgument("size " + no + ", no key", x, () -> x.keeps(no, 20));
    }
  }

  private static void keepsOfNoKey() {
    Lastasked x = Edges.rounds(7);
    for (int no : Edges.NO_KEYS) {
      Checks.noArgument("least size, key " + no, x, () -> x.keeps(1, no));
      Checks.noArgument("greatest size, key " + no, x, () -> x.keeps(6, no));
    }
  }

  private static void takenAtReturns() {
    Lastasked x = Edges.rounds(60);
    for (int size = 1; size <= 6; size++) {
      Checks.same("the last", x.takenAt(size, 19), 59);
      Checks.same("the first it holds", x.takenAt(size, 20 - size), 60 - size);
    }
    Lastasked y = Edges.asking(0, 0, 1, 0);
    Checks.same("behind a miss, anew", y.takenAt(1, 0), 3);
    Checks.same("behind hits, as it was", y.takenAt(2, 0), 0);
  }

  private static void takenAtNone() {
    Lastasked x = Edges.asking(0, 1);
    Checks.same("let go", x.takenAt(1, 0), -1);
    Checks.same("the number 0 is not NONE", x.takenAt(2, 0), 0);
    Checks.same("never asked", x.takenAt(6, 19), -1);
    x.forget();
    Checks.same("forgotten", x.takenAt(6, 1), -1);
  }

  private static void takenAtOfNoSize() {
    Lastasked x = Edges.rounds(7);
    for (int no : Edges.NO_SIZES) {
      Checks.noArgument("size " + no, x, () -> x.takenAt(no, 6));
      Checks.noArgument("size " + no + ", no key", x, () -> x.takenAt(no, 20));
    }
  }

  private static void takenAtOfNoKey() {
    Lastasked x = Edges.rounds(7);
    for (int no : Edges.NO_KEYS) {
      Checks.noArgument("least size, key " + no, x, () -> x.takenAt(1, no));
      Checks.noArgument("greatest size, key " + no, x, () -> x.takenAt(6, no));
    }
  }

  private static void lostReturns() {
    Lastasked x = Edges.rounds(60);
    for (int size = 1; size <= 6; size++) {
      Checks.same("keeper " + size, x.lost(size), 19 - size);
    }
    x.forget();
    x.ask(0);
    x.ask(1);
    Checks.same("key 0 is not NONE", x.lost(1), 0);
    x.ask(1);
    Checks.same("a hit lets none go", x.lost(1), 0);
    x.ask(0);
    Checks.same("key 1", x.lost(1), 1);
    Checks.same("keeper 2 let none go", x.lost(2), -1);
  }

  private static void lostNone() {
    Lastasked x = new Lastasked();
    for (int size = 1; size <= 6; size++) {
      Checks.same("new", x.lost(size), -1);
    }
    x.askRow(0, 1, 6);
    Checks.same("just full", x.lost(6), -1);
    x.ask(0);
    Checks.same("a hit when full", x.lost(6), -1);
    x.ask(6);
    Checks.same("one more", x.lost(6), 1);
    x.forget();
    Checks.same("forgotten", x.lost(6), -1);
  }

  private static void lostOfNoSize() {
    Lastasked x = Edges.rounds(7);
    for (int no : Edges.NO_SIZES) {
      Checks.noArgument("size " + no, x, () -> x.lost(no));
    }
  }

  private static void counts() {
    Sentences.holds(38, "Returns how many misses it had", AskingBoundaries::missesReturns);
    Sentences.holds(38, "size is not 1 to 6", AskingBoundaries::missesOfNoSize);
    Sentences.holds(39, "Returns how many HITS it had", AskingBoundaries::hitsReturns);
    Sentences.holds(39, "size is not 1 to 6", AskingBoundaries::hitsOfNoSize);
  }

  private static void missesReturns() {
    Lastasked x = new Lastasked();
    for (int size = 1; size <= 6; size++) {
      Checks.same("new", x.misses(size), 0);
    }
    Lastasked y = Edges.rounds(60);
    for (int size = 1; size <= 6; size++) {
      Checks.same("all 60", y.misses(size), 60);
    }
    Lastasked z = Edges.asking(0, 1, 0, 1, 0);
    Checks.same("size 1", z.misses(1), 5);
    Checks.same("size 2", z.misses(2), 2);
    Checks.noArgument("what throws is none", z, () -> z.ask(20));
    Checks.same("size 6", z.misses(6), 2);
  }

  private static void missesOfNoSize() {
    Lastasked x = Edges.rounds(7);
    for (int no : Edges.NO_SIZES) {
      Checks.noArgument("size " + no, x, () -> x.misses(no));
    }
  }

  private static void hitsReturns() {
    Lastasked x = new Lastasked();
    for (int size = 1; size <= 6; size++) {
      Checks.same("new", x.hits(size), 0);
    }
    for (int i = 0; i < 5; i++) {
      x.askRow(5, 0, 12);
    }
    for (int size = 1; size <= 6; size++) {
      Checks.same("all but the first of 60", x.hits(size), 59);
    }
    Checks.noState("what throws is none", x, () -> x.ask(5));
    Checks.same("as many", x.hits(6), 59);
    Lastasked y = Edges.asking(0, 1, 0, 1, 0);
    Checks.same("size 1", y.hits(1), 0);
    Checks.same("size 2", y.hits(2), 3);
  }

  private static void hitsOfNoSize() {
    Lastasked x = Edges.rounds(7);
    for (int no : Edges.NO_SIZES) {
      Checks.noArgument("size " + no, x, () -> x.hits(no));
    }
  }

  private static void bests() {
    says("the fewest misses for this row of ASKINGS", AskingBoundaries::fewestMisses);
    says("of any table of at most k KEYS", AskingBoundaries::atMostItsSize);
    says("empty at first, that takes in", AskingBoundaries::emptyAtFirst);
    says("that takes in each asked KEY that it does not hold", AskingBoundaries::takesInEach);
    says("if it would hold more than k then, lets one other go", AskingBoundaries::letsOneGo);
    says("whichever it likes", AskingBoundaries::whicheverItLikes);
    Sentences.holds(42, "Returns BEST of it", AskingBoundaries::bestReturns);
    Sentences.holds(42, "size is not 1 to 6", AskingBoundaries::bestOfNoSize);
  }

  private static void bestIs(String what, Lastasked x, int... due) {
    for (int size = 1; size <= 6; size++) {
      Checks.same(what + ", of " + size, x.best(size), due[size - 1]);
    }
  }

  private static void fewestMisses() {
    bestIs("last asked is the worst", Edges.asking(0, 1, 2, 0, 1, 2), 6, 4, 3, 3, 3, 3);
    bestIs("to the end of the row", Edges.asking(0, 1, 2, 3, 0, 1, 2, 3), 8, 6, 5, 4, 4, 4);
  }

  private static void atMostItsSize() {
    for (int size = 1; size <= 6; size++) {
      Lastasked x = new Lastasked();
      x.askRow(0, 1, size);
      x.askRow(0, 1, size);
      Checks.same("as many keys as its size", x.best(size), size);
      Lastasked y = new Lastasked();
      y.askRow(0, 1, size + 1);
      y.askRow(0, 1, size + 1);
      Checks.yes("one key more", y.best(size) > size + 1);
    }
  }

  private static void emptyAtFirst() {
    bestIs("one asking", Edges.asking(0), 1, 1, 1, 1, 1, 1);
    bestIs("each key once", Edges.rounds(20), 20, 20, 20, 20, 20, 20);
  }

  private static void takesInEach() {
    // A table that could leave 1 and 2 out would miss but three times.
    bestIs("in passing", Edges.asking(0, 1, 0, 2, 0), 5, 3, 3, 3, 3, 3);
    bestIs("in passing, of 2", Edges.asking(0, 1, 2, 0, 1), 5, 4, 3, 3, 3, 3);
  }

  private static void letsOneGo() {
    // It is one other: of a single key, the asked one stays and can be asked again.
    bestIs("the asked one stays", Edges.asking(0, 1, 1, 0, 0), 3, 2, 2, 2, 2, 2);
    // Only one, and only if it must: what is not let go is there later.
    bestIs("no more than one", Edges.asking(0, 1, 2, 3, 0, 1, 3), 7, 5, 4, 4, 4, 4);
  }

  private static void whicheverItLikes() {
    // A table of 3 lets just one of 0 1 2 go for the 3, each time another one: the middle one here.
    bestIs("the middle", Edges.asking(0, 1, 2, 3, 0, 2, 3), 7, 5, 4, 4, 4, 4);
    // The last asked.
    bestIs("the last", Edges.asking(0, 1, 2, 3, 0, 1, 3), 7, 5, 4, 4, 4, 4);
    // The eldest.
    bestIs("the eldest", Edges.asking(0, 1, 2, 3, 1, 2, 3), 7, 5, 4, 4, 4, 4);
  }

  private static void bestReturns() {
    bestIs("no askings", new Lastasked(), 0, 0, 0, 0, 0, 0);
    Lastasked x = new Lastasked();
    for (int i = 0; i < 5; i++) {
      x.askRow(7, 0, 12);
    }
    bestIs("60 of one key", x, 1, 1, 1, 1, 1, 1);
    Lastasked y = Edges.rounds(60);
    long before = y.digest();
    Checks.same("60 of all keys, of 1", y.best(1), 60);
    Checks.yes("60 of all keys, of 6", y.best(6) < 60);
    Checks.same("changes nothing", y.digest(), before);
    y.forget();
    bestIs("forgotten", y, 0, 0, 0, 0, 0, 0);
  }

  private static void bestOfNoSize() {
    Lastasked x = Edges.rounds(7);
    for (int no : Edges.NO_SIZES) {
      Checks.noArgument("size " + no, x, () -> x.best(no));
    }
  }
}

/** Promises 21 to 26: the walks along a table. */
public final class WalksTest {
  private static final int[] NO_TABLES = {-1, 4, Integer.MIN_VALUE, Integer.MAX_VALUE};

  public static void main(String[] args) {
    promise21Walk();
    promise22Step();
    promise22StepRefused();
    promise23Cut();
    promise23CutRefused();
    promise24HasMore();
    promise25StaleByEachAct();
    promise25NotStale();
    promise25NotStaleByThrowing();
    promise26Rest();
    promises22To26Wrong();
    Checks.end();
  }

  /** Table 2 holds 1=10 2=20 3=30 4=40, by asking. */
  private static Lastasked four() {
    Lastasked x = new Lastasked();
    x.make(2, true, -1);
    for (int key = 1; key <= 4; key++) {
      x.put(2, key, key * 10);
    }
    return x;
  }

  private static void promise21Walk() {
    Lastasked x = four();
    Checks.same("walk: ahead", x.walk(2, 0), 4);
    Checks.same("walk: of an empty one", x.walk(0, 2), 0);
    x.step(2);
    x.step(2);
    Checks.same("walk: begins again", x.walk(2, 1), 4);
    Checks.same("walk: the new kind", x.step(2), 10);
    x.put(2, 5, 50);
    Checks.same("walk: instead of a stale one", x.walk(2, 2), 5);
    Checks.no("walk: no longer stale", x.isStale(2));
    Checks.same("walk: pairs", x.step(2), 110);
    Checks.same("walk: no cut of the old one's step", x.walk(2, 0), 5);
    Checks.same("walk: that cut is refused", x.cut(2), -9);
    for (int no : NO_TABLES) {
      Checks.noPlace("walk of table " + no, x, () -> x.walk(no, 0));
      Checks.noPlace("walk of table " + no + ", both wrong", x, () -> x.walk(no, 3));
    }
    x.step(2);
    for (int no : new int[] {-1, 3, Integer.MIN_VALUE, Integer.MAX_VALUE}) {
      Checks.noArgument("walk of " + no, x, () -> x.walk(2, no));
    }
    Checks.same("walk: the old one goes on", x.step(2), 2);
  }

  private static void promise22Step() {
    int[][] due = {{1, 2, 3, 4}, {10, 20, 30, 40}, {110, 220, 330, 440}};
    for (int what = 0; what <= 2; what++) {
      Lastasked x = four();
      x.walk(2, what);
      for (int told : due[what]) {
        Checks.same("step: kind " + what, x.step(2), told);
      }
      Checks.same("step: nothing more", x.step(2), -8);
      Checks.same("step: still nothing more", x.step(2), -8);
      Checks.same("step: that is no refusal", x.house(3), 0);
      Checks.same("step: changes no pair", x.text(2, 2), "1=10 2=20 3=30 4=40");
    }
    Lastasked x = four();
    x.walk(2, 1);
    x.step(2);
    x.set(2, 0, 11);
    x.set(2, 1, 21);
    Checks.same("step: what it is then", x.step(2), 21);
    x.walk(0, 0);
    Checks.same("step: of an empty one", x.step(0), -8);
    Checks.same("step: of each table its own", x.step(2), 30);
  }

  private static void promise22StepRefused() {
    Lastasked x = four();
    Checks.same("step: without a walk", x.step(2), -9);
    Checks.same("step: one refusal", x.house(3), 1);
    x.walk(2, 0);
    x.get(2, 19);
    Checks.same("step: stale", x.step(2), -9);
    Checks.same("step: two refusals", x.house(3), 2);
    x.walk(0, 0);
    x.clear(0);
    Checks.same("step: stale, nothing ahead", x.step(0), -9);
  }

  private static void promise23Cut() {
    Lastasked x = four();
    x.walk(2, 0);
    x.step(2);
    Checks.same("cut: the first", x.cut(2), 3);
    Checks.same("cut: text", x.text(2, 2), "2=20 3=30 4=40");
    Checks.same("cut: goes on behind", x.step(2), 2);
    Checks.same("cut: and on", x.step(2), 3);
    Checks.same("cut: the middle", x.cut(2), 2);
    Checks.no("cut: is not stale", x.isStale(2));
    Checks.same("cut: the last comes", x.step(2), 4);
    Checks.same("cut: nothing more", x.step(2), -8);
    Checks.same("cut: behind nothing more", x.cut(2), 1);
    Checks.same("cut: text at the end", x.text(2, 2), "2=20");
    Checks.same("cut: nothing more then", x.step(2), -8);
    Checks.same("cut: no refusal", x.house(3), 0);

    Lastasked y = four();
    y.walk(2, 1);
    for (int left = 3; left >= 0; left--) {
      y.step(2);
      Checks.same("cut: one by one", y.cut(2), left);
    }
    Checks.same("cut: none left", y.text(2, 0), "");
  }

  private static void promise23CutRefused() {
    Lastasked x = four();
    Checks.same("cut: without a walk", x.cut(2), -9);
    x.walk(2, 0);
    Checks.same("cut: without a step", x.cut(2), -9);
    x.step(2);
    x.cut(2);
    Checks.same("cut: twice for a step", x.cut(2), -9);
    x.step(2);
    x.getOr(2, 19, 0);
    Checks.same("cut: stale", x.cut(2), -9);
    Checks.same("cut: refusals", x.house(3), 4);
    Checks.same("cut: pairs left", x.text(2, 0), "2 3 4");
    x.walk(0, 0);
    x.step(0);
    Checks.same("cut: a step to nothing is none", x.cut(0), -9);
    x.walk(2, 0);
    x.rest(2);
    x.cut(2);
    Checks.same("cut: a step to nothing behind a cut", x.step(2), -8);
    Checks.same("cut: is none either", x.cut(2), -9);
  }

  private static void promise24HasMore() {
    Lastasked x = four();
    Checks.no("hasMore: without a walk", x.hasMore(2));
    x.walk(2, 0);
    Checks.yes("hasMore: at the beginning", x.hasMore(2));
    x.step(2);
    x.step(2);
    x.step(2);
    Checks.yes("hasMore: one more", x.hasMore(2));
    x.step(2);
    Checks.no("hasMore: at the end", x.hasMore(2));
    x.cut(2);
    Checks.no("hasMore: behind a cut at the end", x.hasMore(2));
    x.walk(2, 0);
    x.put(2, 1, 1);
    Checks.no("hasMore: stale", x.hasMore(2));
    x.walk(0, 0);
    Checks.no("hasMore: of an empty one", x.hasMore(0));
    Checks.same("hasMore: no refusal", x.house(3), 0);
  }

  private static void stale(String act, Lastasked x) {
    Checks.yes("stale by " + act, x.isStale(2));
    Checks.same("stale by " + act + ": step", x.step(2), -9);
    Checks.same("stale by " + act + ": rest", x.rest(2), -9);
    x.walk(2, 0);
    Checks.no("stale by " + act + ": begun anew", x.isStale(2));
    x.step(2);
  }

  private static void promise25StaleByEachAct() {
    Lastasked x = four();
    x.walk(2, 0);
    x.put(2, 4, 40);
    stale("a put of the same", x);
    x.put(2, 6, 60);
    stale("a put of a new one", x);
    x.putIfAbsent(2, 6, 1);
    stale("a put if absent of one there", x);
    x.putIfAbsent(2, 7, 70);
    stale("a put if absent", x);
    x.get(2, 7);
    stale("a get of the last", x);
    x.get(2, 19);
    stale("a get of none", x);
    x.getOr(2, 7, 1);
    stale("a get or", x);
    x.getOr(2, 19, 1);
    stale("a get or of none", x);
    x.remove(2, 19);
    stale("a remove of none", x);
    x.remove(2, 1);
    stale("a remove", x);
    x.copy(2, 2);
    stale("a copy of itself", x);
    x.copy(0, 2);
    stale("a copy into it", x);
    x.clear(2);
    stale("a clear of an empty one", x);
    x.make(2, false, -1);
    stale("a make", x);
    x.get(2, 0);
    stale("a get by putting", x);
  }

  private static void promise25NotStale() {
    Lastasked x = four();
    x.put(2, 1, 10);
    x.clear(0);
    Checks.no("stale: without a walk", x.isStale(2));
    Checks.no("stale: without a walk, empty", x.isStale(0));
    x.walk(2, 0);
    x.has(2, 1);
    x.placeOf(2, 1);
    x.keyAt(2, 0);
    x.set(2, 0, 5);
    x.set(2, 9, 5);
    x.text(2, 2);
    x.step(2);
    x.cut(2);
    x.copy(2, 1);
    x.put(1, 5, 5);
    x.walk(1, 0);
    x.get(3, 0);
    x.ask(2);
    x.forget();
    x.knock();
    Checks.no("stale: by none of these", x.isStale(2));
    Checks.no("stale: nor the other one", x.isStale(1));
    Checks.yes("stale: more ahead", x.hasMore(2));
    x.rest(2);
    x.step(2);
    Checks.no("stale: not at the end", x.isStale(2));
  }

  private static void promise25NotStaleByThrowing() {
    Lastasked x = four();
    x.make(1, true, 3);
    x.walk(1, 0);
    x.walk(2, 0);
    Checks.noArgument("a make that throws", x, () -> x.make(2, true, 13));
    Checks.noArgument("a put that throws", x, () -> x.put(2, 20, 0));
    Checks.noArgument("a put if absent that throws", x, () -> x.putIfAbsent(2, 1, 100));
    Checks.noState("a put if absent with most", x, () -> x.putIfAbsent(1, 1, 1));
    Checks.noArgument("a get that throws", x, () -> x.get(2, 20));
    Checks.noArgument("a get or that throws", x, () -> x.getOr(2, 20, 0));
    Checks.noArgument("a remove that throws", x, () -> x.remove(2, 20));
    Checks.noPlace("a copy that throws", x, () -> x.copy(4, 2));
    Checks.no("stale: not by throwing", x.isStale(2) || x.isStale(1));
    Checks.same("stale: the walk goes on", x.step(2), 1);
  }

  private static void promise26Rest() {
    int[] due = {10, 100, 1100};
    for (int what = 0; what <= 2; what++) {
      Lastasked x = four();
      x.walk(2, what);
      Checks.same("rest: kind " + what, x.rest(2), due[what]);
      Checks.same("rest: nothing more", x.rest(2), 0);
      Checks.no("rest: is at the end", x.hasMore(2));
      Checks.same("rest: the last one can be cut", x.cut(2), 3);
      Checks.same("rest: text", x.text(2, 0), "1 2 3");
    }
    Lastasked x = four();
    Checks.same("rest: without a walk", x.rest(2), -9);
    x.walk(2, 0);
    x.step(2);
    x.step(2);
    Checks.same("rest: from there on", x.rest(2), 7);
    x.walk(2, 0);
    x.rest(2);
    x.rest(2);
    Checks.same("rest: an empty rest leaves the cut due", x.cut(2), 3);
    x.walk(0, 0);
    Checks.same("rest: of an empty one", x.rest(0), 0);
    Checks.same("rest: of an empty one makes no step", x.cut(0), -9);
    x.remove(2, 19);
    Checks.same("rest: stale", x.rest(2), -9);
    Checks.same("rest: refusals", x.house(3), 3);
    for (int key = 0; key < 20; key++) {
      x.put(3, key, 99);
    }
    x.walk(3, 2);
    Checks.same("rest: all pairs", x.rest(3), 20980);
  }

  private static void promises22To26Wrong() {
    Lastasked x = four();
    x.walk(2, 0);
    for (int no : NO_TABLES) {
      Checks.noPlace("step of table " + no, x, () -> x.step(no));
      Checks.noPlace("cut of table " + no, x, () -> x.cut(no));
      Checks.noPlace("hasMore of table " + no, x, () -> x.hasMore(no));
      Checks.noPlace("isStale of table " + no, x, () -> x.isStale(no));
      Checks.noPlace("rest of table " + no, x, () -> x.rest(no));
    }
  }
}

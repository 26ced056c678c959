/** Long runs of calls, the same each time, against the model that is made of LinkedHashMaps. */
public final class RandomRunsTest {
  private static final int RUNS = 1000;
  // The document promises 512 calls of an object; the last act of a run may take ten.
  private static final int CALLS = 500;

  private static long seed;
  private static int calls;

  public static void main(String[] args) {
    for (int run = 0; run < RUNS; run++) {
      seed = 1000003L * run + 17;
      oneRun(run);
    }
    Checks.end();
  }

  private static int below(int bound) {
    seed = seed * 6364136223846793005L + 1442695040888963407L;
    return (int) ((seed >>> 33) % bound);
  }

  private static void oneRun(int run) {
    Lastasked x = new Lastasked();
    Model m = new Model();
    int greatestKey = run % 3 == 0 ? 20 : 4 + run % 9;
    calls = 0;
    while (calls < CALLS) {
      String what = "run " + run + ", call " + calls;
      int act = below(100);
      if (act < 40) {
        change(what, x, m, greatestKey);
      } else if (act < 65) {
        walk(what, x, m);
      } else if (act < 80) {
        asking(what, x, m, greatestKey);
      } else {
        look(what, x, m, greatestKey);
      }
      same(what + ": digest", x.digest(), m.digest());
    }
    same("run " + run + ": sound", x.isSound(), true);
  }

  private static void same(String what, Object got, Object due) {
    calls++;
    Checks.same(what, got, due);
  }

  private static void noState(String what, Lastasked x, Checks.Call call) {
    // The call itself, and the two digests round it.
    calls += 3;
    Checks.noState(what, x, call);
  }

  private static void change(String what, Lastasked x, Model m, int greatestKey) {
    int table = below(4);
    int key = below(greatestKey);
    int value = below(100);
    switch (below(11)) {
      case 0:
        int most = below(3) == 0 ? -1 : 1 + below(12);
        boolean isByAsking = below(2) == 0;
        same(what + ": make", x.make(table, isByAsking, most), m.make(table, isByAsking, most));
        break;
      case 1:
        if (m.rows[table].most == -1) {
          same(
              what + ": putIfAbsent", x.putIfAbsent(table, key, value), m.putIfAbsent(table, key, value));
        } else {
          noState(what + ": putIfAbsent", x, () -> x.putIfAbsent(table, key, value));
        }
        break;
      case 2:
        same(what + ": get", x.get(table, key), m.get(table, key));
        break;
      case 3:
        same(what + ": getOr", x.getOr(table, key, -9), m.getOr(table, key, -9));
        break;
      case 4:
        same(what + ": remove", x.remove(table, key), m.remove(table, key));
        break;
      case 5:
        int place = below(10) - 1;
        same(what + ": set", x.set(table, place, value), m.set(table, place, value));
        break;
      case 6:
        int into = below(4);
        same(what + ": copy", x.copy(table, into), m.copy(table, into));
        break;
      case 7:
        if (below(4) == 0) {
          same(what + ": clear", x.clear(table), m.clear(table));
        }
        break;
      default:
        same(what + ": put", x.put(table, key, value), m.put(table, key, value));
        break;
    }
  }

  private static void walk(String what, Lastasked x, Model m) {
    int table = below(4);
    if (below(3) == 0) {
      int kind = below(3);
      same(what + ": walk", x.walk(table, kind), m.walk(table, kind));
    }
    // Several in a row, for a walk is stale soon.
    for (int i = below(5); i >= 0; i--) {
      switch (below(5)) {
        case 0:
          same(what + ": cut", x.cut(table), m.cut(table));
          break;
        case 1:
          int place = below(6);
          int value = below(100);
          same(what + ": set", x.set(table, place, value), m.set(table, place, value));
          break;
        case 2:
          if (i == 0) {
            same(what + ": rest", x.rest(table), m.rest(table));
          }
          break;
        default:
          same(what + ": step", x.step(table), m.step(table));
          break;
      }
    }
  }

  private static void asking(String what, Lastasked x, Model m, int greatestKey) {
    int key = below(greatestKey);
    int step = below(20);
    int many = 1 + below(12);
    int act = below(12);
    if (act == 0 && m.keys.size() > 40) {
      same(what + ": forget", x.forget(), m.forget());
    } else if (act < 3) {
      if (m.keys.size() + many <= 60) {
        same(what + ": askRow", x.askRow(key, step, many), m.askRow(key, step, many));
      } else {
        noState(what + ": askRow", x, () -> x.askRow(key, step, many));
      }
    } else if (m.keys.size() < 60) {
      same(what + ": ask", x.ask(key), m.ask(key));
    } else {
      noState(what + ": ask", x, () -> x.ask(key));
    }
  }

  private static void look(String what, Lastasked x, Model m, int greatestKey) {
    int table = below(4);
    int key = below(greatestKey);
    if (below(2) == 0) {
      lookAtTable(what, x, m, table, key);
    } else {
      lookAtAskings(what, x, m, key);
    }
  }

  private static void lookAtTable(String what, Lastasked x, Model m, int table, int key) {
    int place = below(14) - 1;
    int kind = below(3);
    Model.Row row = m.rows[table];
    switch (below(8)) {
      case 0:
        same(what + ": has", x.has(table, key), row.map.containsKey(key));
        same(what + ": size", x.size(table), row.map.size());
        break;
      case 1:
        same(what + ": keyAt", x.keyAt(table, place), m.at(table, place, 0));
        same(what + ": valueAt", x.valueAt(table, place), m.at(table, place, 1));
        break;
      case 2:
        same(what + ": pairAt", x.pairAt(table, place), m.at(table, place, 2));
        break;
      case 3:
        same(what + ": placeOf", x.placeOf(table, key), m.placeOf(table, key));
        break;
      case 4:
        same(what + ": eldest", x.eldest(table), m.at(table, 0, 0));
        same(what + ": latest", x.latest(table), m.at(table, row.map.size() - 1, 0));
        break;
      case 5:
        same(what + ": ofTable", x.ofTable(table, kind + 2), row.of(kind + 2));
        break;
      case 6:
        same(what + ": hasMore", x.hasMore(table), m.hasMore(table));
        same(what + ": isStale", x.isStale(table), m.isStale(table));
        break;
      default:
        same(what + ": text", x.text(table, kind), row.text(kind));
        break;
    }
  }

  private static void lookAtAskings(String what, Lastasked x, Model m, int key) {
    int size = 1 + below(6);
    int depth = below(14) - 1;
    switch (below(6)) {
      case 0:
        same(what + ": depth", x.depth(key), m.depth(key));
        break;
      case 1:
        same(what + ": stack", x.stack(), m.stack.text(0));
        same(what + ": kept", x.kept(size), m.keepers[size].text(0));
        break;
      case 2:
        same(what + ": keeps", x.keeps(size, key), m.keepers[size].map.containsKey(key));
        break;
      case 3:
        same(what + ": hits", x.hits(size), m.keys.size() - m.misses[size]);
        same(what + ": misses", x.misses(size), m.misses[size]);
        break;
      case 4:
        same(what + ": withDepth", x.withDepth(depth), m.withDepth(depth));
        same(what + ": best", x.best(size), m.best(size));
        break;
      default:
        m.knocks++;
        same(what + ": knock", x.knock(), m.knocks);
        break;
    }
  }
}

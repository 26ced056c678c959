import java.util.ArrayList;
import java.util.Iterator;
import java.util.LinkedHashMap;
import java.util.List;
import java.util.Map;

/** The same promises, told by the library's own LinkedHashMap and its iterators. */
final class Model {
  private static final int KEYS = 20;

  /** One table: a map in its sequence, and the one iterator along it. */
  static final class Row {
    LinkedHashMap<Integer, Integer> map;
    boolean isByAsking;
    int most;
    int lostMany;
    int lostLast;
    Iterator<Map.Entry<Integer, Integer>> walk;
    boolean isStale;
    boolean canCut;
    int kind;

    Row(boolean isByAsking, int most) {
      become(isByAsking, most);
    }

    void become(boolean nowByAsking, int nowMost) {
      isByAsking = nowByAsking;
      most = nowMost;
      lostMany = 0;
      lostLast = -1;
      Row row = this;
      map =
          new LinkedHashMap<>(16, 0.75f, isByAsking) {
            private static final long serialVersionUID = 1L;

            @Override
            protected boolean removeEldestEntry(Map.Entry<Integer, Integer> eldest) {
              boolean isOver = row.most != -1 && size() > row.most;
              if (isOver) {
                row.lostMany++;
                row.lostLast = eldest.getKey();
              }
              return isOver;
            }
          };
    }

    List<Map.Entry<Integer, Integer>> pairs() {
      return new ArrayList<>(map.entrySet());
    }

    int told(Map.Entry<Integer, Integer> e, int what) {
      int key = e.getKey();
      int value = e.getValue();
      return what == 0 ? key : what == 1 ? value : key * 100 + value;
    }

    String text(int what) {
      List<String> all = new ArrayList<>();
      for (Map.Entry<Integer, Integer> e : map.entrySet()) {
        all.add(what == 2 ? e.getKey() + "=" + e.getValue() : String.valueOf(told(e, what)));
      }
      return String.join(" ", all);
    }

    int of(int what) {
      int sum = 0;
      for (int value : map.values()) {
        sum += value;
      }
      int[] all = {isByAsking ? 1 : 0, most, lostMany, lostLast, sum};
      return all[what];
    }

    boolean isUsable() {
      return walk != null && !isStale;
    }
  }

  final Row[] rows = new Row[4];
  final List<Integer> keys = new ArrayList<>();
  final List<Integer> depths = new ArrayList<>();
  final Row stack = new Row(true, -1);
  final Row[] keepers = new Row[7];
  final int[] misses = new int[7];
  int refusals;
  int knocks;

  Model() {
    for (int i = 0; i < 4; i++) {
      rows[i] = new Row(false, -1);
    }
    for (int size = 1; size <= 6; size++) {
      keepers[size] = new Row(true, size);
    }
  }

  private int refuse() {
    refusals++;
    return -9;
  }

  private static int orNone(Integer value) {
    return value == null ? -1 : value;
  }

  int make(int table, boolean isByAsking, int most) {
    Row row = rows[table];
    int before = row.map.size();
    row.become(isByAsking, most);
    row.isStale = true;
    return before;
  }

  int put(int table, int key, int value) {
    rows[table].isStale = true;
    return orNone(rows[table].map.put(key, value));
  }

  int putIfAbsent(int table, int key, int value) {
    rows[table].isStale = true;
    return orNone(rows[table].map.putIfAbsent(key, value));
  }

  int get(int table, int key) {
    rows[table].isStale = true;
    return orNone(rows[table].map.get(key));
  }

  int getOr(int table, int key, int other) {
    rows[table].isStale = true;
    return rows[table].map.getOrDefault(key, other);
  }

  int remove(int table, int key) {
    rows[table].isStale = true;
    return orNone(rows[table].map.remove(key));
  }

  int clear(int table) {
    int before = rows[table].map.size();
    rows[table].isStale = true;
    rows[table].map.clear();
    return before;
  }

  int set(int table, int place, int value) {
    List<Map.Entry<Integer, Integer>> pairs = rows[table].pairs();
    return place < 0 || place >= pairs.size() ? refuse() : pairs.get(place).setValue(value);
  }

  int copy(int table, int into) {
    LinkedHashMap<Integer, Integer> from = rows[table].map;
    rows[into].become(false, -1);
    rows[into].map.putAll(from);
    rows[into].isStale = true;
    return from.size();
  }

  int at(int table, int place, int what) {
    List<Map.Entry<Integer, Integer>> pairs = rows[table].pairs();
    boolean isThere = place >= 0 && place < pairs.size();
    return isThere ? rows[table].told(pairs.get(place), what) : -1;
  }

  int placeOf(int table, int key) {
    return new ArrayList<>(rows[table].map.keySet()).indexOf(key);
  }

  int walk(int table, int what) {
    Row row = rows[table];
    row.walk = row.map.entrySet().iterator();
    row.isStale = false;
    row.canCut = false;
    row.kind = what;
    return row.map.size();
  }

  int step(int table) {
    Row row = rows[table];
    if (!row.isUsable()) {
      return refuse();
    }
    if (!row.walk.hasNext()) {
      return -8;
    }
    row.canCut = true;
    return row.told(row.walk.next(), row.kind);
  }

  int cut(int table) {
    Row row = rows[table];
    if (!row.isUsable() || !row.canCut) {
      return refuse();
    }
    row.canCut = false;
    row.walk.remove();
    return row.map.size();
  }

  boolean hasMore(int table) {
    return rows[table].isUsable() && rows[table].walk.hasNext();
  }

  boolean isStale(int table) {
    return rows[table].walk != null && rows[table].isStale;
  }

  int rest(int table) {
    if (!rows[table].isUsable()) {
      return refuse();
    }
    int sum = 0;
    while (hasMore(table)) {
      sum += step(table);
    }
    return sum;
  }

  int ask(int key) {
    int place = new ArrayList<>(stack.map.keySet()).indexOf(key);
    depths.add(place < 0 ? 0 : stack.map.size() - place);
    keys.add(key);
    int hits = 0;
    for (int size = 1; size <= 6; size++) {
      if (keepers[size].map.get(key) == null) {
        misses[size]++;
        keepers[size].map.put(key, keys.size() - 1);
      } else {
        hits++;
      }
    }
    stack.map.put(key, 0);
    return hits;
  }

  int askRow(int first, int step, int many) {
    int hits = 0;
    for (int i = 0; i < many; i++) {
      hits += ask((first + i * step) % KEYS);
    }
    return hits;
  }

  int forget() {
    int before = keys.size();
    keys.clear();
    depths.clear();
    stack.become(true, -1);
    for (int size = 1; size <= 6; size++) {
      keepers[size].become(true, size);
      misses[size] = 0;
    }
    return before;
  }

  int depth(int key) {
    int place = new ArrayList<>(stack.map.keySet()).indexOf(key);
    return place < 0 ? 0 : stack.map.size() - place;
  }

  int withDepth(int depth) {
    int many = 0;
    for (int each : depths) {
      many += each == depth ? 1 : 0;
    }
    return many;
  }

  int best(int size) {
    List<Integer> held = new ArrayList<>();
    int missed = 0;
    for (int nth = 0; nth < keys.size(); nth++) {
      if (!held.contains(keys.get(nth))) {
        missed++;
        if (held.size() == size) {
          held.remove(farthest(held, nth));
        }
        held.add(keys.get(nth));
      }
    }
    return missed;
  }

  private Integer farthest(List<Integer> held, int nth) {
    List<Integer> ahead = keys.subList(nth, keys.size());
    for (Integer key : held) {
      if (!ahead.contains(key)) {
        return key;
      }
    }
    Integer farthest = held.get(0);
    for (Integer key : held) {
      if (ahead.indexOf(key) > ahead.indexOf(farthest)) {
        farthest = key;
      }
    }
    return farthest;
  }

  int house(int what) {
    int pairs = 0;
    for (Row row : rows) {
      pairs += row.map.size();
    }
    int[] all = {pairs, keys.size(), stack.map.size(), refusals, knocks};
    return all[what];
  }

  long digest() {
    List<Integer> all = new ArrayList<>();
    for (int what = 0; what <= 4; what++) {
      all.add(house(what));
    }
    for (int table = 0; table < 4; table++) {
      for (int what = 0; what <= 4; what++) {
        all.add(rows[table].of(what));
      }
      for (Map.Entry<Integer, Integer> e : rows[table].map.entrySet()) {
        all.add(e.getKey() * 100 + e.getValue());
      }
      all.add(hasMore(table) ? 1 : 0);
      all.add(isStale(table) ? 1 : 0);
    }
    for (int nth = 0; nth < keys.size(); nth++) {
      all.add(keys.get(nth));
      all.add(depths.get(nth));
    }
    all.addAll(stack.map.keySet());
    for (int size = 1; size <= 6; size++) {
      all.add(misses[size]);
      all.add(best(size));
      all.add(keepers[size].lostLast);
      LinkedHashMap<Integer, Integer> unasked = new LinkedHashMap<>(keepers[size].map);
      for (int key = 0; key < KEYS; key++) {
        all.add(orNone(unasked.get(key)));
      }
    }
    all.add(1);
    long d = 7808;
    for (int v : all) {
      d = d * 31 + v;
    }
    return d;
  }
}

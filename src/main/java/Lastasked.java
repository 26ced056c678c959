/**
 * Tables that keep a sequence: four that are changed freely, a stack of all that was asked, and
 * six keepers of the 1 to 6 last asked. See README.md for how it is used.
 */
public final class Lastasked {
  private static final int NONE = -1;
  private static final int REFUSED = -9;
  private static final int NOTHING_MORE = -8;

  private static final int TABLES = 4;
  private static final int KEYS = 20;
  private static final int VALUES = 100;
  private static final int GREATEST_MOST = 12;
  private static final int SIZES = 6;
  private static final int GREATEST_ASKED = 60;
  private static final int GREATEST_ROW = 12;

  private static final int OF_KEYS = 0;
  private static final int OF_VALUES = 1;
  private static final int OF_PAIRS = 2;

  private static final long DIGEST_START = 7808L;
  private static final long DIGEST_FACTOR = 31L;

  private final Table[] tables = new Table[TABLES];
  private final Askings askings = new Askings();
  private final Row stackRow = new Row(true, NONE);
  private final Keeper[] keepers = new Keeper[SIZES];
  /** Used again by each isSound: the BEST of the size k stands at k - 1. */
  private final int[] bests = new int[SIZES];
  private int refusals = 0;
  private int knocks = 0;

  public Lastasked() {
    for (int i = 0; i < TABLES; i++) {
      tables[i] = new Table(new Row(false, NONE));
    }
    for (int i = 0; i < SIZES; i++) {
      keepers[i] = new Keeper(i + 1);
    }
  }

  // ---- tables

  public int make(int table, boolean isByAsking, int most)
      throws IndexOutOfBoundsException, IllegalArgumentException {
    Table t = tableOf(table);
    if (most != NONE && (most < 1 || most > GREATEST_MOST)) {
      throw new IllegalArgumentException("most is not NONE and not 1 to 12");
    }
    t.walking.outdate();
    return t.row.renew(isByAsking, most);
  }

  public int put(int table, int key, int value)
      throws IndexOutOfBoundsException, IllegalArgumentException {
    Table t = tableOf(table);
    demandKey(key);
    demandValue(value);
    t.walking.outdate();
    return t.row.bring(key, value);
  }

  public int putIfAbsent(int table, int key, int value)
      throws IndexOutOfBoundsException, IllegalArgumentException, IllegalStateException {
    Table t = tableOf(table);
    demandKey(key);
    demandValue(value);
    if (t.row.most != NONE) {
      throw new IllegalStateException("the table has a most");
    }
    t.walking.outdate();
    return t.row.bringIfAbsent(key, value);
  }

  public int get(int table, int key) throws IndexOutOfBoundsException, IllegalArgumentException {
    Table t = tableOf(table);
    demandKey(key);
    t.walking.outdate();
    return t.row.fetch(key, NONE);
  }

  public int getOr(int table, int key, int other)
      throws IndexOutOfBoundsException, IllegalArgumentException {
    Table t = tableOf(table);
    demandKey(key);
    t.walking.outdate();
    return t.row.fetch(key, other);
  }

  public int remove(int table, int key) throws IndexOutOfBoundsException, IllegalArgumentException {
    Table t = tableOf(table);
    demandKey(key);
    t.walking.outdate();
    return t.row.dropKey(key);
  }

  public int clear(int table) throws IndexOutOfBoundsException {
    Table t = tableOf(table);
    t.walking.outdate();
    return t.row.dropAll();
  }

  public int set(int table, int place, int value)
      throws IndexOutOfBoundsException, IllegalArgumentException {
    Table t = tableOf(table);
    demandValue(value);
    if (!t.row.isPlace(place)) {
      return refuse();
    }
    return t.row.changeValue(place, value);
  }

  public int copy(int table, int into) throws IndexOutOfBoundsException {
    Table from = tableOf(table);
    Table to = tableOf(into);
    to.walking.outdate();
    to.row.become(from.row);
    return to.row.count;
  }

  public boolean has(int table, int key)
      throws IndexOutOfBoundsException, IllegalArgumentException {
    Table t = tableOf(table);
    demandKey(key);
    return t.row.find(key) != NONE;
  }

  public int size(int table) throws IndexOutOfBoundsException {
    return tableOf(table).row.count;
  }

  public int keyAt(int table, int place) throws IndexOutOfBoundsException {
    return tableOf(table).row.told(place, OF_KEYS);
  }

  public int valueAt(int table, int place) throws IndexOutOfBoundsException {
    return tableOf(table).row.told(place, OF_VALUES);
  }

  public int pairAt(int table, int place) throws IndexOutOfBoundsException {
    return tableOf(table).row.told(place, OF_PAIRS);
  }

  public int placeOf(int table, int key)
      throws IndexOutOfBoundsException, IllegalArgumentException {
    Table t = tableOf(table);
    demandKey(key);
    return t.row.find(key);
  }

  public int eldest(int table) throws IndexOutOfBoundsException {
    return tableOf(table).row.told(0, OF_KEYS);
  }

  public int latest(int table) throws IndexOutOfBoundsException {
    Table t = tableOf(table);
    return t.row.told(t.row.count - 1, OF_KEYS);
  }

  public String text(int table, int what)
      throws IndexOutOfBoundsException, IllegalArgumentException {
    Table t = tableOf(table);
    demandKindOfWalk(what);
    return t.row.written(what);
  }

  public int ofTable(int table, int what)
      throws IndexOutOfBoundsException, IllegalArgumentException {
    Row row = tableOf(table).row;
    switch (what) {
      case 0:
        return row.isByAsking ? 1 : 0;
      case 1:
        return row.most;
      case 2:
        return row.lostMany;
      case 3:
        return row.lostLast;
      case 4:
        return row.sumOfValues();
      default:
        throw new IllegalArgumentException("what is not 0 to 4");
    }
  }

  // ---- walks

  public int walk(int table, int what) throws IndexOutOfBoundsException, IllegalArgumentException {
    Table t = tableOf(table);
    demandKindOfWalk(what);
    t.walking.begin(what);
    return t.row.count;
  }

  public int step(int table) throws IndexOutOfBoundsException {
    Table t = tableOf(table);
    if (!t.walking.isUsable()) {
      return refuse();
    }
    if (!t.walking.isAnyAhead()) {
      return NOTHING_MORE;
    }
    return t.walking.advance();
  }

  public int cut(int table) throws IndexOutOfBoundsException {
    Table t = tableOf(table);
    if (!t.walking.canCut()) {
      return refuse();
    }
    t.walking.cutLast();
    return t.row.count;
  }

  public boolean hasMore(int table) throws IndexOutOfBoundsException {
    return tableOf(table).walking.isAnyAhead();
  }

  public boolean isStale(int table) throws IndexOutOfBoundsException {
    return tableOf(table).walking.isOutdated();
  }

  public int rest(int table) throws IndexOutOfBoundsException {
    Table t = tableOf(table);
    if (!t.walking.isUsable()) {
      return refuse();
    }
    return t.walking.advanceToEnd();
  }

  // ---- askings

  public int ask(int key) throws IllegalArgumentException, IllegalStateException {
    demandKey(key);
    demandRoomFor(1);
    return askOne(key);
  }

  public int askRow(int first, int step, int many)
      throws IllegalArgumentException, IllegalStateException {
    demandKey(first);
    if (step < 0 || step >= KEYS) {
      throw new IllegalArgumentException("step is not 0 to 19");
    }
    if (many < 1 || many > GREATEST_ROW) {
      throw new IllegalArgumentException("many is not 1 to 12");
    }
    demandRoomFor(many);
    int hitsOfAll = 0;
    for (int i = 0; i < many; i++) {
      hitsOfAll += askOne((first + i * step) % KEYS);
    }
    return hitsOfAll;
  }

  public int forget() {
    int before = askings.count;
    askings.count = 0;
    stackRow.renew(true, NONE);
    for (Keeper keeper : keepers) {
      keeper.startAnew();
    }
    return before;
  }

  public int asked() {
    return askings.count;
  }

  public int askedAt(int nth) {
    return askings.isNumber(nth) ? askings.keys[nth] : NONE;
  }

  public int depthAt(int nth) {
    return askings.isNumber(nth) ? askings.depths[nth] : NONE;
  }

  public int depth(int key) throws IllegalArgumentException {
    demandKey(key);
    return depthNow(key);
  }

  public String stack() {
    return stackRow.written(OF_KEYS);
  }

  public String kept(int size) throws IllegalArgumentException {
    return keeperOf(size).row.written(OF_KEYS);
  }

  public boolean keeps(int size, int key) throws IllegalArgumentException {
    Keeper keeper = keeperOf(size);
    demandKey(key);
    return keeper.row.find(key) != NONE;
  }

  public int takenAt(int size, int key) throws IllegalArgumentException {
    Keeper keeper = keeperOf(size);
    demandKey(key);
    return keeper.row.told(keeper.row.find(key), OF_VALUES);
  }

  public int misses(int size) throws IllegalArgumentException {
    return keeperOf(size).missed;
  }

  public int hits(int size) throws IllegalArgumentException {
    return keeperOf(size).hit;
  }

  public int lost(int size) throws IllegalArgumentException {
    return keeperOf(size).row.lostLast;
  }

  public int withDepth(int depth) {
    return askings.countOfDepth(depth);
  }

  public int best(int size) throws IllegalArgumentException {
    demandSize(size);
    return askings.fewestMisses(size);
  }

  // ---- the house

  public int house(int what) throws IllegalArgumentException {
    switch (what) {
      case 0:
        return pairsOfTables();
      case 1:
        return askings.count;
      case 2:
        return stackRow.count;
      case 3:
        return refusals;
      case 4:
        return knocks;
      default:
        throw new IllegalArgumentException("what is not 0 to 4");
    }
  }

  public int knock() {
    knocks++;
    return knocks;
  }

  public boolean isSound() {
    for (int i = 0; i < SIZES; i++) {
      bests[i] = askings.fewestMisses(i + 1);
    }
    return isNoTableAboveMost()
        && areKeepersLastOfStack()
        && areMissesByDepth()
        && areBestsWithinMisses()
        && isNoneGrowingWithSize()
        && isTheoremKept();
  }

  public long digest() {
    long d = DIGEST_START;
    for (int what = 0; what <= 4; what++) {
      d = mixed(d, house(what));
    }
    for (int table = 0; table < TABLES; table++) {
      d = mixedWithTable(d, table);
    }
    for (int nth = 0; nth < askings.count; nth++) {
      d = mixed(d, askedAt(nth));
      d = mixed(d, depthAt(nth));
    }
    for (int place = 0; place < stackRow.count; place++) {
      d = mixed(d, stackRow.told(place, OF_KEYS));
    }
    for (int size = 1; size <= SIZES; size++) {
      d = mixedWithKeeper(d, size);
    }
    return mixed(d, isSound() ? 1 : 0);
  }

  // ---- what the digest is mixed of

  private static long mixed(long d, int v) {
    return d * DIGEST_FACTOR + v;
  }

  private long mixedWithTable(long start, int table) {
    long d = start;
    for (int what = 0; what <= 4; what++) {
      d = mixed(d, ofTable(table, what));
    }
    for (int place = 0; place < size(table); place++) {
      d = mixed(d, pairAt(table, place));
    }
    d = mixed(d, hasMore(table) ? 1 : 0);
    return mixed(d, isStale(table) ? 1 : 0);
  }

  private long mixedWithKeeper(long start, int size) {
    long d = start;
    d = mixed(d, misses(size));
    d = mixed(d, best(size));
    d = mixed(d, lost(size));
    for (int key = 0; key < KEYS; key++) {
      d = mixed(d, takenAt(size, key));
    }
    return d;
  }

  // ---- what is demanded of arguments

  private Table tableOf(int table) {
    if (table < 0 || table >= TABLES) {
      throw new IndexOutOfBoundsException("there is no such table");
    }
    return tables[table];
  }

  private Keeper keeperOf(int size) {
    demandSize(size);
    return keepers[size - 1];
  }

  private static void demandSize(int size) {
    if (size < 1 || size > SIZES) {
      throw new IllegalArgumentException("size is not 1 to 6");
    }
  }

  private static void demandKey(int key) {
    if (key < 0 || key >= KEYS) {
      throw new IllegalArgumentException("key is not 0 to 19");
    }
  }

  private static void demandValue(int value) {
    if (value < 0 || value >= VALUES) {
      throw new IllegalArgumentException("value is not 0 to 99");
    }
  }

  private static void demandKindOfWalk(int what) {
    if (what < OF_KEYS || what > OF_PAIRS) {
      throw new IllegalArgumentException("what is not 0 to 2");
    }
  }

  private void demandRoomFor(int many) {
    if (askings.count + many > GREATEST_ASKED) {
      throw new IllegalStateException("there would be more than 60 askings");
    }
  }

  private int refuse() {
    refusals++;
    return REFUSED;
  }

  // ---- what an asking does

  private int askOne(int key) {
    int nth = askings.count;
    askings.add(key, depthNow(key));
    int hitsOfThis = 0;
    for (Keeper keeper : keepers) {
      if (keeper.meet(key, nth)) {
        hitsOfThis++;
      }
    }
    stackRow.fetchOrTakeIn(key, nth);
    return hitsOfThis;
  }

  private int depthNow(int key) {
    int place = stackRow.find(key);
    return place == NONE ? 0 : stackRow.count - place;
  }

  private int pairsOfTables() {
    int sum = 0;
    for (Table t : tables) {
      sum += t.row.count;
    }
    return sum;
  }

  // ---- what makes it sound

  private boolean isNoTableAboveMost() {
    for (Table t : tables) {
      if (t.row.isAboveMost()) {
        return false;
      }
    }
    for (Keeper keeper : keepers) {
      if (keeper.row.isAboveMost()) {
        return false;
      }
    }
    return true;
  }

  private boolean areKeepersLastOfStack() {
    for (Keeper keeper : keepers) {
      if (!keeper.row.isLastOf(stackRow)) {
        return false;
      }
    }
    return true;
  }

  private boolean areMissesByDepth() {
    for (Keeper keeper : keepers) {
      if (keeper.missed != askings.countOutOfReach(keeper.row.most)) {
        return false;
      }
    }
    return true;
  }

  private boolean areBestsWithinMisses() {
    for (int i = 0; i < SIZES; i++) {
      if (bests[i] > keepers[i].missed) {
        return false;
      }
    }
    return true;
  }

  private boolean isNoneGrowingWithSize() {
    for (int i = 1; i < SIZES; i++) {
      if (keepers[i].missed > keepers[i - 1].missed || bests[i] > bests[i - 1]) {
        return false;
      }
    }
    return true;
  }

  /**
   * The document names the theorem without its words. It is taken to be the one of Sleator and
   * Tarjan on "last asked" against the best: misses(c) is at most best(k) * c / (c - k + 1). Their
   * added constant falls away, as both begin empty.
   */
  private boolean isTheoremKept() {
    for (int c = 1; c <= SIZES; c++) {
      for (int k = 1; k <= c; k++) {
        if (keepers[c - 1].missed * (c - k + 1) > bests[k - 1] * c) {
          return false;
        }
      }
    }
    return true;
  }

  /** PAIRS in their sequence, each KEY once, by putting or by asking, with a MOST or none. */
  private static final class Row {
    private final int[] keys = new int[KEYS];
    private final int[] values = new int[KEYS];
    private int count = 0;
    private boolean isByAsking;
    private int most;
    private int lostMany = 0;
    private int lostLast = NONE;

    Row(boolean isByAskingAtFirst, int mostAtFirst) {
      isByAsking = isByAskingAtFirst;
      most = mostAtFirst;
    }

    int renew(boolean isByAskingNow, int mostNow) {
      isByAsking = isByAskingNow;
      most = mostNow;
      lostMany = 0;
      lostLast = NONE;
      return dropAll();
    }

    void become(Row other) {
      // The count is read first: the other one may be this one, which renew makes empty.
      int many = other.count;
      renew(false, NONE);
      for (int i = 0; i < many; i++) {
        keys[i] = other.keys[i];
        values[i] = other.values[i];
      }
      count = many;
    }

    int bring(int key, int value) {
      int place = find(key);
      if (place == NONE) {
        takeIn(key, value);
        return NONE;
      }
      int before = changeValue(place, value);
      noteAsking(place);
      return before;
    }

    int bringIfAbsent(int key, int value) {
      if (find(key) == NONE) {
        takeIn(key, value);
        return NONE;
      }
      return fetch(key, NONE);
    }

    int fetch(int key, int other) {
      int place = find(key);
      if (place == NONE) {
        return other;
      }
      int value = values[place];
      noteAsking(place);
      return value;
    }

    boolean fetchOrTakeIn(int key, int value) {
      int place = find(key);
      if (place == NONE) {
        takeIn(key, value);
        return false;
      }
      noteAsking(place);
      return true;
    }

    int dropKey(int key) {
      int place = find(key);
      if (place == NONE) {
        return NONE;
      }
      int value = values[place];
      dropAt(place);
      return value;
    }

    int dropAll() {
      int before = count;
      count = 0;
      return before;
    }

    void dropAt(int place) {
      if (!isPlace(place)) {
        return;
      }
      for (int i = place; i + 1 < count; i++) {
        keys[i] = keys[i + 1];
        values[i] = values[i + 1];
      }
      count--;
    }

    int changeValue(int place, int value) {
      if (!isPlace(place)) {
        return NONE;
      }
      int before = values[place];
      values[place] = value;
      return before;
    }

    int find(int key) {
      for (int i = 0; i < count; i++) {
        if (keys[i] == key) {
          return i;
        }
      }
      return NONE;
    }

    boolean isPlace(int place) {
      return place >= 0 && place < count;
    }

    int told(int place, int what) {
      if (!isPlace(place)) {
        return NONE;
      }
      if (what == OF_KEYS) {
        return keys[place];
      }
      if (what == OF_VALUES) {
        return values[place];
      }
      return keys[place] * VALUES + values[place];
    }

    int sumOfValues() {
      int sum = 0;
      for (int i = 0; i < count; i++) {
        sum += values[i];
      }
      return sum;
    }

    String written(int what) {
      StringBuilder all = new StringBuilder();
      for (int i = 0; i < count; i++) {
        if (i > 0) {
          all.append(' ');
        }
        if (what != OF_VALUES) {
          all.append(keys[i]);
        }
        if (what == OF_PAIRS) {
          all.append('=');
        }
        if (what != OF_KEYS) {
          all.append(values[i]);
        }
      }
      return all.toString();
    }

    boolean isAboveMost() {
      return most != NONE && count > most;
    }

    /** Whether it holds as many of the last KEYS of the other one as its MOST lets it. */
    boolean isLastOf(Row other) {
      if (count != Math.min(most, other.count)) {
        return false;
      }
      int skipped = other.count - count;
      for (int i = 0; i < count; i++) {
        if (keys[i] != other.keys[skipped + i]) {
          return false;
        }
      }
      return true;
    }

    private void takeIn(int key, int value) {
      append(key, value);
      if (isAboveMost()) {
        lostMany++;
        lostLast = keys[0];
        dropAt(0);
      }
    }

    private void noteAsking(int place) {
      if (!isByAsking || !isPlace(place)) {
        return;
      }
      int key = keys[place];
      int value = values[place];
      dropAt(place);
      append(key, value);
    }

    private void append(int key, int value) {
      if (count < KEYS) {
        keys[count] = key;
        values[count] = value;
        count++;
      }
    }
  }

  /** The WALK of a row, or that there is none; it is one object for all of a table's WALKS. */
  private static final class Walk {
    private final Row row;
    private boolean isBegun = false;
    private boolean isOld = false;
    private boolean isCutDue = false;
    private int kind = OF_KEYS;
    private int next = 0;

    Walk(Row rowWalked) {
      row = rowWalked;
    }

    void begin(int what) {
      isBegun = true;
      isOld = false;
      isCutDue = false;
      kind = what;
      next = 0;
    }

    void outdate() {
      isOld = true;
    }

    boolean isUsable() {
      return isBegun && !isOld;
    }

    boolean isOutdated() {
      return isBegun && isOld;
    }

    boolean isAnyAhead() {
      return isUsable() && row.isPlace(next);
    }

    boolean canCut() {
      return isUsable() && isCutDue;
    }

    int advance() {
      int here = row.told(next, kind);
      next++;
      isCutDue = true;
      return here;
    }

    int advanceToEnd() {
      int ahead = row.count - next;
      int sum = 0;
      for (int i = 0; i < ahead; i++) {
        sum += advance();
      }
      return sum;
    }

    void cutLast() {
      next--;
      isCutDue = false;
      row.dropAt(next);
    }
  }

  /** One of the TABLES that are changed freely: its PAIRS, and the WALK along them. */
  private static final class Table {
    private final Row row;
    private final Walk walking;

    Table(Row rowOfIt) {
      row = rowOfIt;
      walking = new Walk(rowOfIt);
    }
  }

  /** The last asked KEYS of one size, and how often they held what was asked. */
  private static final class Keeper {
    private final Row row;
    private int missed = 0;
    private int hit = 0;

    Keeper(int size) {
      row = new Row(true, size);
    }

    void startAnew() {
      row.renew(true, row.most);
      missed = 0;
      hit = 0;
    }

    boolean meet(int key, int nth) {
      boolean isHit = row.fetchOrTakeIn(key, nth);
      if (isHit) {
        hit++;
      } else {
        missed++;
      }
      return isHit;
    }
  }

  /** The row of ASKINGS, with the DEPTH that each had. */
  private static final class Askings {
    private final int[] keys = new int[GREATEST_ASKED];
    private final int[] depths = new int[GREATEST_ASKED];
    /** The number of the next ASKING of the same KEY; GREATEST_ASKED if there is none yet. */
    private final int[] nexts = new int[GREATEST_ASKED];
    private final int[] heldKeys = new int[SIZES];
    private final int[] heldNexts = new int[SIZES];
    private int count = 0;

    void add(int key, int depth) {
      if (count >= GREATEST_ASKED) {
        return;
      }
      noteNext(key);
      keys[count] = key;
      depths[count] = depth;
      nexts[count] = GREATEST_ASKED;
      count++;
    }

    private void noteNext(int key) {
      for (int i = count - 1; i >= 0; i--) {
        if (keys[i] == key) {
          nexts[i] = count;
          return;
        }
      }
    }

    boolean isNumber(int nth) {
      return nth >= 0 && nth < count;
    }

    int countOfDepth(int depth) {
      int many = 0;
      for (int i = 0; i < count; i++) {
        if (depths[i] == depth) {
          many++;
        }
      }
      return many;
    }

    int countOutOfReach(int size) {
      int many = 0;
      for (int i = 0; i < count; i++) {
        if (depths[i] == 0 || depths[i] > size) {
          many++;
        }
      }
      return many;
    }

    /** No table misses less than one that lets go the KEY whose next ASKING is the farthest. */
    int fewestMisses(int size) {
      int most = Math.min(size, SIZES);
      int held = 0;
      int missed = 0;
      for (int i = 0; i < count; i++) {
        int place = heldPlace(keys[i], held);
        if (place == NONE) {
          missed++;
          place = held < most ? held : farthestPlace(held);
          held = Math.max(held, place + 1);
          heldKeys[place] = keys[i];
        }
        heldNexts[place] = nexts[i];
      }
      return missed;
    }

    private int heldPlace(int key, int held) {
      for (int i = 0; i < held; i++) {
        if (heldKeys[i] == key) {
          return i;
        }
      }
      return NONE;
    }

    private int farthestPlace(int held) {
      int farthest = 0;
      for (int i = 1; i < held; i++) {
        if (heldNexts[i] > heldNexts[farthest]) {
          farthest = i;
        }
      }
      return farthest;
    }
  }
}

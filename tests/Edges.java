/** The arguments just outside what the document allows, and the objects that stand at an edge. */
final class Edges {
  static final int LEAST = Integer.MIN_VALUE;
  static final int GREATEST = Integer.MAX_VALUE;

  static final int[] NO_TABLES = {-1, 4, LEAST, GREATEST};
  static final int[] NO_KEYS = {-1, 20, LEAST, GREATEST};
  static final int[] NO_VALUES = {-1, 100, LEAST, GREATEST};
  static final int[] NO_MOSTS = {-2, 0, 13, LEAST, GREATEST};
  static final int[] NO_SIZES = {0, 7, -1, LEAST, GREATEST};
  static final int[] NO_THREE = {-1, 3, LEAST, GREATEST};
  static final int[] NO_FIVE = {-1, 5, LEAST, GREATEST};

  private Edges() {}

  /** Table 2 holds as many pairs as told: 1=10 2=20 3=30 and so on, up to 19=90. */
  static Lastasked filled(boolean isByAsking, int most, int many) {
    Lastasked x = new Lastasked();
    x.make(2, isByAsking, most);
    for (int key = 1; key <= many; key++) {
      x.put(2, key, key * 10 % 100);
    }
    return x;
  }

  /** Table 2 holds 1=10 2=20 3=30 4=40, by asking, without a most. */
  static Lastasked four() {
    return filled(true, -1, 4);
  }

  /** Table 2 holds every key, each with the value 99, by asking, without a most. */
  static Lastasked allKeys() {
    Lastasked x = new Lastasked();
    x.make(2, true, -1);
    for (int key = 0; key < 20; key++) {
      x.put(2, key, 99);
    }
    return x;
  }

  /** Asks the keys told, one by one. */
  static Lastasked asking(int... keys) {
    Lastasked x = new Lastasked();
    for (int key : keys) {
      x.ask(key);
    }
    return x;
  }

  /** As many askings as told, up to 60, of the keys 0 to 19 round and round. */
  static Lastasked rounds(int many) {
    Lastasked x = new Lastasked();
    for (int left = many, first = 0; left > 0; left -= 12, first = (first + 12) % 20) {
      x.askRow(first, 1, Math.min(left, 12));
    }
    return x;
  }
}

/** Promises 43 to 46: the house, the knocks, soundness and the digest. */
public final class HouseTest {
  public static void main(String[] args) {
    promise43House();
    promise44Knock();
    promise45IsSound();
    promise46DigestOfNew();
    promise46DigestOfAll();
    Checks.end();
  }

  private static void promise43House() {
    Lastasked x = new Lastasked();
    for (int what = 0; what <= 4; what++) {
      Checks.same("house of a new one: " + what, x.house(what), 0);
    }
    x.put(0, 1, 1);
    x.put(1, 1, 1);
    x.put(3, 1, 1);
    x.put(3, 2, 1);
    Checks.same("house: pairs", x.house(0), 4);
    x.remove(3, 2);
    Checks.same("house: pairs less one", x.house(0), 3);
    x.askRow(5, 0, 3);
    x.ask(6);
    Checks.same("house: askings", x.house(1), 4);
    Checks.same("house: on the stack", x.house(2), 2);
    x.set(0, 1, 0);
    x.step(0);
    x.cut(0);
    x.rest(0);
    Checks.same("house: refused", x.house(3), 4);
    x.knock();
    Checks.same("house: knocks", x.house(4), 1);
    x.forget();
    Checks.same("house: no askings", x.house(1), 0);
    Checks.same("house: none on the stack", x.house(2), 0);
    Checks.same("house: refused all the same", x.house(3), 4);
    for (int no : new int[] {-1, 5, Integer.MIN_VALUE, Integer.MAX_VALUE}) {
      Checks.noArgument("house of " + no, x, () -> x.house(no));
    }
  }

  private static void promise44Knock() {
    Lastasked x = new Lastasked();
    for (int many = 1; many <= 20; many++) {
      Checks.same("knock", x.knock(), many);
    }
    Checks.same("knock: nothing else", x.house(0) + x.house(1) + x.house(2) + x.house(3), 0);
  }

  private static void promise45IsSound() {
    Lastasked x = new Lastasked();
    Checks.yes("sound: new", x.isSound());
    for (int nth = 0; nth < 60; nth++) {
      x.ask(nth * nth % 11);
      x.put(nth % 4, nth % 20, nth);
      Checks.yes("sound: behind asking " + nth, x.isSound());
    }
    x.make(0, false, 1);
    x.put(0, 1, 1);
    Checks.yes("sound: with a most", x.isSound());
    x.forget();
    Checks.yes("sound: forgotten", x.isSound());
    x.askRow(3, 0, 12);
    Checks.yes("sound: one key alone", x.isSound());
  }

  private static long mix(long d, int... all) {
    long mixed = d;
    for (int v : all) {
      mixed = mixed * 31 + v;
    }
    return mixed;
  }

  private static void promise46DigestOfNew() {
    long d = mix(7808, 0, 0, 0, 0, 0);
    for (int table = 0; table < 4; table++) {
      d = mix(d, 0, -1, 0, -1, 0, 0, 0);
    }
    for (int size = 1; size <= 6; size++) {
      d = mix(d, 0, 0, -1);
      for (int key = 0; key < 20; key++) {
        d = mix(d, -1);
      }
    }
    d = mix(d, 1);
    Lastasked x = new Lastasked();
    Checks.same("digest: new", x.digest(), d);
    Checks.same("digest: changes nothing", x.digest(), d);
  }

  /** Table 0 with a walk ahead, table 1 with a stale one, two askings, a refusal, two knocks. */
  private static void promise46DigestOfAll() {
    Lastasked x = new Lastasked();
    x.make(0, true, 1);
    x.put(0, 4, 44);
    x.put(0, 5, 55);
    x.walk(0, 0);
    x.walk(1, 0);
    x.put(1, 0, 0);
    x.step(1);
    x.ask(1);
    x.ask(0);
    x.knock();
    x.knock();
    long d = mix(7808, 2, 2, 2, 1, 2);
    d = mix(d, 1, 1, 1, 4, 55, 555, 1, 0);
    d = mix(d, 0, -1, 0, -1, 0, 0, 0, 1);
    d = mix(d, 0, -1, 0, -1, 0, 0, 0);
    d = mix(d, 0, -1, 0, -1, 0, 0, 0);
    d = mix(d, 1, 0, 0, 0, 1, 0);
    for (int size = 1; size <= 6; size++) {
      d = mix(d, 2, 2, size == 1 ? 1 : -1);
      d = mix(d, 1, size == 1 ? -1 : 0);
      for (int key = 2; key < 20; key++) {
        d = mix(d, -1);
      }
    }
    d = mix(d, 1);
    Checks.same("digest: of all", x.digest(), d);
  }
}

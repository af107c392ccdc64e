/** Promises 8 to 13: suit, plead, deny, undo, of, now; and what the KINDS say. */
public final class SuitTest {
  private static final Check check = new Check();
  private static final int PLAIN = 0, PERSONS = 1, FORCE = 2, TIME = 3, LETTER = 4, SHIP = 5;

  public static void main(String[] args) {
    suit();
    plead();
    mayByKind();
    costByKind();
    winsByKind();
    deny();
    undo();
    undoAtMost();
    undoEnds();
    of();
    now();
    check.end("SuitTest");
  }

  /** A suit with one fiction of a kind, behind so many steps (plain ones that give FACT 7). */
  private static DoeRoe one(int kind, int needs, int fee, int facts, int steps) {
    DoeRoe x = new DoeRoe();
    x.book(facts);
    x.fiction(kind, needs, 6, fee);
    for (int d = 0; d < steps; d++) {
      x.fiction(PLAIN, 0, 7, 0);
      x.plead(d + 1);
    }
    return x;
  }

  private static void suit() {
    DoeRoe x = one(PLAIN, 0, 3, 1, 2);
    check.due("suit()", x.suit(), 2);
    check.due("now(1)", x.now(1), 0);
    check.due("now(0)", x.now(0), 1);
    check.due("now(2)", x.now(2), 0);
    check.due("now(3)", x.now(3), 0);
    check.due("count(0)", x.count(0), 3);
    check.due("count(6)", x.count(6), 0);
    check.due("suit() again", x.suit(), 0);
    x.plead(0);
    check.due("PAID", x.now(3), 3);
    x.note(0, 1, 1);
    x.suit();
    check.due("PAID behind suit", x.now(3), 0);
    check.due("count(4) behind suit", x.count(4), 1);
    check.due("undo() behind suit", x.undo(), DoeRoe.NO);
  }

  private static void plead() {
    DoeRoe x = new DoeRoe();
    check.due("plead(0) of none", x.plead(0), DoeRoe.BAD);
    x.fiction(PLAIN, 0, 3, 7);
    x.fiction(PLAIN, 8, 5, 11);
    check.due("plead(-1)", x.plead(-1), DoeRoe.BAD);
    check.due("plead(2)", x.plead(2), DoeRoe.BAD);
    check.due("plead(1) ahead", x.plead(1), DoeRoe.NO);
    check.due("plead(0)", x.plead(0), 7);
    check.due("plead(0) again", x.plead(0), DoeRoe.NO);
    check.due("plead(1)", x.plead(1), 11);
    check.due("SUPPOSED", x.now(0), 40);
    check.due("PLEADED", x.now(1), 3);
    check.due("STEPS", x.now(2), 2);
    check.due("PAID", x.now(3), 18);
    check.status(x, "behind plead", 3, 2, 0);
  }

  private static void may(int kind, int needs, int facts, int steps, int want) {
    DoeRoe x = one(kind, needs, 4, facts, steps);
    String told = "kind " + kind + ", needs " + needs + ", facts " + facts + ", step " + steps;
    check.due("of(0, 5) of " + told, x.of(0, 5), want);
    check.due("may() of " + told, x.may() & 1, want);
    check.isTrue("plead(0) of " + told, x.plead(0) >= 0 == (want == 1));
  }

  private static void mayByKind() {
    for (int steps = 0; steps <= 4; steps++) {
      int odd = steps % 2;
      int first = steps == 0 ? 1 : 0;
      int[] met = {1, 1, 1, odd, 1, 1};
      int[] some = {0, 0, first, 0, 1, first};
      int[] none = {0, 0, first, 0, 0, first};
      for (int kind = 0; kind < 6; kind++) {
        may(kind, 3, 3, steps, met[kind]);
        may(kind, 0, 0, steps, met[kind]);
        may(kind, 3, 2, steps, some[kind]);
        may(kind, 3, 4, steps, none[kind]);
      }
    }
    check.due("a need met by what is PLEADED", one(PLAIN, 128, 0, 0, 1).of(0, 5), 1);
  }

  private static void cost(int kind, int fee, int steps, int want) {
    DoeRoe x = one(kind, 0, fee, 0, steps);
    String told = "kind " + kind + ", fee " + fee + ", step " + steps;
    check.due("of(0, 6) of " + told, x.of(0, 6), want);
    if (kind != TIME || steps % 2 == 1) {
      check.due("plead(0) of " + told, x.plead(0), want);
      check.due("now(3) of " + told, x.now(3), want);
    }
  }

  private static void costByKind() {
    for (int steps = 0; steps <= 5; steps++) {
      for (int fee = 0; fee <= 20; fee++) {
        int half = steps >= 2 ? (fee + 1) / 2 : fee;
        cost(PLAIN, fee, steps, fee);
        cost(PERSONS, fee, steps, half);
        cost(FORCE, fee, steps, fee + 2);
        cost(TIME, fee, steps, half);
        cost(LETTER, fee, steps, fee);
        cost(SHIP, fee, steps, fee + 2 + steps);
      }
    }
    check.due("half of 7 is cut up", one(PERSONS, 0, 7, 0, 2).plead(0), 4);
  }

  private static void winsByKind() {
    int[] needs = {0, 1, 3, 7, 15};
    int[] from = {9, 2, 9, 1, 9, 3};
    for (int kind = 0; kind < 6; kind++) {
      for (int untrue = 0; untrue <= 4; untrue++) {
        int want = untrue >= from[kind] ? 1 : 0;
        String told = "kind " + kind + ", " + untrue + " not TRUE";
        check.due("of(0, 7) of " + told, one(kind, needs[untrue], 0, 0, 0).of(0, 7), want);
        check.due("of(0, 7), TRUE ones too, of " + told,
            one(kind, needs[untrue] | 32, 0, 32, 1).of(0, 7), want);
      }
    }
    check.due("SUPPOSED ones are not TRUE", one(TIME, 128, 0, 0, 1).of(0, 7), 1);
  }

  private static void deny() {
    DoeRoe x = one(SHIP, 7, 1, 0, 0);
    check.due("deny(0), not PLEADED", x.deny(0), DoeRoe.NO);
    check.due("deny(-1)", x.deny(-1), DoeRoe.BAD);
    check.due("deny(1)", x.deny(1), DoeRoe.BAD);
    x.fiction(PLAIN, 64, 5, 2);
    x.plead(0);
    x.plead(1);
    check.due("deny(1)", x.deny(1), 0);
    check.due("PLEADED behind a denial that does not win", x.now(1), 3);
    check.due("deny(0)", x.deny(0), 1);
    check.due("PLEADED behind one that wins", x.now(1), 2);
    check.due("SUPPOSED behind it", x.now(0), 32);
    check.due("STEPS stay", x.now(2), 2);
    check.due("PAID stays", x.now(3), 5);
    check.due("count(6)", x.count(6), 4);
    check.due("deny(0) again", x.deny(0), DoeRoe.NO);
    check.status(x, "behind deny", 2, 2, 0);
  }

  private static void undo() {
    DoeRoe x = one(SHIP, 7, 1, 0, 0);
    x.fiction(PLAIN, 64, 5, 2);
    check.due("undo() of none", x.undo(), DoeRoe.NO);
    x.plead(0);
    x.plead(1);
    x.deny(0);
    x.deny(1);
    check.due("undo() of a denial that did not win", x.undo(), 2);
    check.due("PLEADED as it was", x.now(1), 2);
    check.due("undo() of one that won", x.undo(), 2);
    check.due("PLEADED is again", x.now(1), 3);
    check.due("PAID is still", x.now(3), 5);
    check.due("undo() of plead", x.undo(), 1);
    check.due("PAID is less", x.now(3), 3);
    check.due("PLEADED is less", x.now(1), 1);
    check.due("count(6)", x.count(6), 1);
    check.due("undo() of the first", x.undo(), 0);
    check.due("nothing PLEADED", x.now(1), 0);
    check.due("undo() of no more", x.undo(), DoeRoe.NO);
    check.due("plead(0) again", x.plead(0), 3);
    check.status(x, "behind undo", 0, 2, 0);
  }

  private static void undoAtMost() {
    DoeRoe x = new DoeRoe();
    for (int f = 0; f < 6; f++) {
      x.fiction(PLAIN, 0, f, 1);
    }
    for (int f = 0; f < 6; f++) {
      x.plead(f);
      check.due("count(6)", x.count(6), f + 1);
    }
    for (int f = 0; f < 4; f++) {
      x.deny(f);
    }
    check.due("count(6) at most", x.count(6), 8);
    for (int k = 0; k < 4; k++) {
      check.due("undo() of a denial", x.undo(), 6);
    }
    for (int k = 5; k >= 2; k--) {
      check.due("undo() of plead", x.undo(), k);
    }
    check.due("the first ones stay", x.now(1), 3);
    check.due("undo() of a ninth", x.undo(), DoeRoe.NO);
    undoTheLastEight();
  }

  private static void undoTheLastEight() {
    DoeRoe x = new DoeRoe();
    x.fiction(PLAIN, 0, 0, 1);
    x.fiction(PLAIN, 0, 1, 1);
    x.fiction(PERSONS, 3, 2, 8);
    x.plead(0);
    x.plead(1);
    for (int k = 0; k < 4; k++) {
      check.due("plead(2)", x.plead(2), 4);
      check.due("deny(2)", x.deny(2), 1);
    }
    check.due("count(6)", x.count(6), 8);
    for (int k = 3; k >= 0; k--) {
      check.due("undo() of a denial", x.undo(), 3 + k);
      check.due("PLEADED ahead of it", x.now(1), 7);
      check.due("PAID ahead of it", x.now(3), 6 + 4 * k);
      check.due("undo() of plead", x.undo(), 2 + k);
      check.due("PLEADED ahead of that", x.now(1), 3);
      check.due("PAID ahead of that", x.now(3), 2 + 4 * k);
    }
    check.due("undo() of a ninth", x.undo(), DoeRoe.NO);
    check.due("STEPS stay", x.now(2), 2);
  }

  private static DoeRoe pleadedOne() {
    DoeRoe x = one(PLAIN, 0, 1, 0, 0);
    x.plead(0);
    return x;
  }

  private static void undoEnds() {
    DoeRoe x = pleadedOne();
    x.fiction(6, 0, 0, 0);
    x.court(0, 21);
    x.plead(0);
    x.note(0, 0, 0);
    check.due("count(6) behind refused ones", x.count(6), 1);
    x.fiction(PLAIN, 0, 0, 0);
    check.due("undo() behind a fiction", x.undo(), DoeRoe.NO);
    check.due("PLEADED stays behind a fiction", x.now(1), 1);
    x = pleadedOne();
    x.court(0, 0);
    check.due("undo() behind a court", x.undo(), DoeRoe.NO);
    check.due("STEPS stay behind a court", x.now(2), 1);
    x = pleadedOne();
    x.suit();
    check.due("undo() behind a suit anew", x.undo(), DoeRoe.NO);
  }

  private static void of() {
    DoeRoe x = new DoeRoe();
    check.due("of(0, 0) of none", x.of(0, 0), DoeRoe.BAD);
    x.book(1);
    x.fiction(TIME, 7, 2, 9);
    x.fiction(LETTER, 1, 1, 4);
    check.due("of(-1, 0)", x.of(-1, 0), DoeRoe.BAD);
    check.due("of(2, 0)", x.of(2, 0), DoeRoe.BAD);
    check.due("of(0, -1)", x.of(0, -1), DoeRoe.BAD);
    check.due("of(0, 8)", x.of(0, 8), DoeRoe.BAD);
    int[] time = {3, 7, 2, 9, 0, 0, 9, 1};
    int[] letter = {4, 1, 1, 4, 0, 1, 4, 0};
    for (int what = 0; what < 8; what++) {
      check.due("of(0, " + what + ")", x.of(0, what), time[what]);
      check.due("of(1, " + what + ")", x.of(1, what), letter[what]);
    }
    x.plead(1);
    check.due("of(1, 4), PLEADED", x.of(1, 4), 1);
    check.due("of(1, 5), PLEADED", x.of(1, 5), 0);
    check.due("of(1, 6), PLEADED", x.of(1, 6), 4);
    check.status(x, "behind of", 5, 0, 0);
  }

  private static void now() {
    DoeRoe x = one(SHIP, 255, 5, 2, 0);
    x.plead(0);
    int[] want = {66, 1, 1, 7, 2};
    for (int what = 0; what < 5; what++) {
      check.due("now(" + what + ")", x.now(what), want[what]);
    }
    check.due("now(-1)", x.now(-1), DoeRoe.BAD);
    check.due("now(5)", x.now(5), DoeRoe.BAD);
    check.status(x, "behind now", 2, 0, 0);
  }
}

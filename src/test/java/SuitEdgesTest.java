/** The edges of a suit (promises 8 to 13), and of what each KIND says. */
public final class SuitEdgesTest {
  private static final Check check = new Check();
  private static final int PLAIN = 0, PERSONS = 1, FORCE = 2, TIME = 3, LETTER = 4, SHIP = 5;

  public static void main(String[] args) {
    mayByNeeds();
    mayByStep();
    costByStep();
    costOfFarSteps();
    winsByUntrue();
    winsByTrueAlone();
    suitAnew();
    pleadOnce();
    pleadAllSix();
    denyKeepsOthers();
    denyThenPlead();
    undoOneToNine();
    undoOfMany();
    undoBehindUndo();
    undoEnds();
    undoStays();
    ofPleaded();
    nowOfAll();
    check.end("SuitEdgesTest");
  }

  private static int low(int bits) {
    return (1 << bits) - 1;
  }

  /** FICTION 0 is to be looked at; so many STEPS were made by plain ones that give one FACT. */
  private static DoeRoe behind(int kind, int needs, int fee, int facts, int given, int steps) {
    DoeRoe x = new DoeRoe();
    x.book(facts);
    x.fiction(kind, needs, 0, fee);
    for (int d = 1; d <= steps; d++) {
      x.fiction(PLAIN, 0, given, 0);
      x.plead(d);
    }
    return x;
  }

  private static boolean mayBe(int kind, int k, int j, int d) {
    switch (kind) {
      case FORCE:
      case SHIP:
        return j == k || d == 0;
      case TIME:
        return j == k && d % 2 == 1;
      case LETTER:
        return j == k || j >= 1;
      default:
        return j == k;
    }
  }

  /** k 0 .. 8 that it NEEDS, j 0 .. k of these SUPPOSED, at STEPS 0 .. 5 */
  private static void mayByNeeds() {
    for (int kind = 0; kind < 6; kind++) {
      for (int k = 0; k <= 8; k++) {
        for (int j = 0; j <= k; j++) {
          for (int d = 0; d <= 5; d++) {
            // What is given on the way must not be one that it NEEDS, or be TRUE already.
            int given = k < 8 ? 7 : 0;
            if (k == 8 && j == 0 && d > 0) {
              continue;
            }
            DoeRoe x = behind(kind, low(k), 4, low(j), given, d);
            String told = "kind " + kind + ", k " + k + ", j " + j + ", d " + d;
            int want = mayBe(kind, k, j, d) ? 1 : 0;
            check.due("STEPS of " + told, x.now(2), d);
            check.due("of(0, 5) of " + told, x.of(0, 5), want);
            check.due("may() of " + told, x.may(), want);
            long before = x.digest();
            check.due("plead(0) of " + told, x.plead(0),
                want == 1 ? costs(kind, 4, d) : DoeRoe.NO);
            check.isTrue("digest() of " + told, want == 1 || x.digest() == before);
            check.due("PLEADED of " + told, x.now(1) & 1, want);
          }
        }
      }
    }
  }

  /** The first STEP of all, the next, odd ones and even ones, by what is SUPPOSED, not TRUE */
  private static void mayByStep() {
    for (int kind = 0; kind < 6; kind++) {
      for (int d = 1; d <= 5; d++) {
        DoeRoe x = behind(kind, 128, 4, 0, 7, d);
        check.due("SUPPOSED is enough, kind " + kind + ", d " + d, x.of(0, 5),
            kind != TIME || d % 2 == 1 ? 1 : 0);
        x = behind(kind, 64, 4, 0, 7, d);
        check.due("another is not, kind " + kind + ", d " + d, x.of(0, 5), 0);
        x = behind(kind, 192, 4, 0, 7, d);
        check.due("one of two is for LETTER, kind " + kind + ", d " + d, x.of(0, 5),
            kind == LETTER ? 1 : 0);
      }
    }
  }

  private static int costs(int kind, int fee, int d) {
    switch (kind) {
      case PERSONS:
      case TIME:
        return d < 2 ? fee : fee - fee / 2;
      case FORCE:
        return fee + 2;
      case SHIP:
        return fee + 2 + d;
      default:
        return fee;
    }
  }

  /** "half (cut up) of PLAIN from STEP 2 on", "1 more than FORCE for each STEP" */
  private static void costByStep() {
    for (int kind = 0; kind < 6; kind++) {
      for (int fee = 0; fee <= 20; fee++) {
        for (int d = 0; d <= 5; d++) {
          DoeRoe x = behind(kind, 0, fee, 0, 7, d);
          String told = "kind " + kind + ", fee " + fee + ", d " + d;
          check.due("of(0, 6) of " + told, x.of(0, 6), costs(kind, fee, d));
          boolean may = kind != TIME || d % 2 == 1;
          check.due("plead(0) of " + told, x.plead(0), may ? costs(kind, fee, d) : DoeRoe.NO);
          check.due("PAID of " + told, x.now(3), may ? costs(kind, fee, d) : 0);
          check.due("STEPS of " + told, x.now(2), may ? d + 1 : d);
        }
      }
    }
  }

  /** STEPS have no bound: a SHIP is pleaded and denied, over and over, up to the 512th call. */
  private static void costOfFarSteps() {
    DoeRoe x = new DoeRoe();
    x.fiction(PLAIN, 0, 0, 0);
    x.fiction(PLAIN, 0, 1, 0);
    x.fiction(PLAIN, 0, 2, 0);
    x.fiction(SHIP, 7, 7, 20);
    for (int f = 0; f < 3; f++) {
      x.plead(f);
    }
    int paid = 0;
    for (int d = 3; d < 253; d++) {
      check.due("plead(3) at STEP " + d, x.plead(3), 22 + d);
      check.due("deny(3) behind it", x.deny(3), 1);
      paid += 22 + d;
    }
    check.due("STEPS", x.now(2), 253);
    check.due("PAID", x.now(3), paid);
    check.due("count(6)", x.count(6), 8);
    check.due("undo()", x.undo(), 253);
    check.due("the 512th call", x.now(1), 15);
  }

  /** u 0 .. 8 of those it NEEDS are not TRUE */
  private static void winsByUntrue() {
    int[] from = {9, 2, 9, 1, 9, 3};
    for (int kind = 0; kind < 6; kind++) {
      for (int facts = 0; facts <= 255; facts++) {
        DoeRoe x = new DoeRoe();
        x.book(facts);
        x.fiction(kind, 255, 0, 0);
        x.fiction(kind, 85, 0, 0);
        x.fiction(kind, 0, 0, 0);
        String told = "kind " + kind + ", facts " + facts;
        int all = 8 - Integer.bitCount(facts);
        int some = 4 - Integer.bitCount(facts & 85);
        check.due("of(0, 7) of " + told, x.of(0, 7), all >= from[kind] ? 1 : 0);
        check.due("of(1, 7) of " + told, x.of(1, 7), some >= from[kind] ? 1 : 0);
        check.due("of(2, 7) of " + told, x.of(2, 7), 0);
      }
    }
  }

  /** "by how many of those it NEEDS are not TRUE": SUPPOSED ones are not TRUE */
  private static void winsByTrueAlone() {
    DoeRoe x = new DoeRoe();
    x.book(4);
    x.fiction(PLAIN, 0, 0, 0);
    x.fiction(PLAIN, 0, 1, 0);
    x.fiction(PERSONS, 7, 7, 0);
    x.plead(0);
    x.plead(1);
    x.plead(2);
    check.due("SUPPOSED", x.now(0), 135);
    check.due("two are SUPPOSED only: deny(2)", x.deny(2), 1);
    x.book(5);
    x.fiction(PLAIN, 0, 0, 0);
    x.fiction(PLAIN, 0, 1, 0);
    x.fiction(PERSONS, 7, 7, 0);
    x.plead(0);
    x.plead(1);
    x.plead(2);
    check.due("one is SUPPOSED only: deny(2)", x.deny(2), 0);
  }

  /** A SUIT anew, of none PLEADED, of all; NOTES, HEARD, the BOOK stay */
  private static void suitAnew() {
    DoeRoe x = new DoeRoe();
    check.due("suit() of a new one", x.suit(), 0);
    x = Made.full();
    check.due("suit()", x.suit(), 4);
    int[] want = {6, 4, 0, 0, 6, 6, 0, 150};
    for (int what = 0; what < 8; what++) {
      check.due("count(" + what + ") behind suit", x.count(what), want[what]);
    }
    for (int what = 0; what < 5; what++) {
      check.due("now(" + what + ") behind suit", x.now(what), 0);
    }
    check.due("undo() behind suit", x.undo(), DoeRoe.NO);
    check.due("part(1) behind suit", x.part(1), 100);
    check.due("suit() again", x.suit(), 0);
    check.due("plead(0) at STEP 0", x.plead(0), 22);
    check.due("suit() of one", x.suit(), 1);
    check.due("from(0) behind suit", x.from(0), 1);
    check.due("PLEADED by the image", x.now(1), 1);
  }

  /** "NO: it is, it may not be." */
  private static void pleadOnce() {
    DoeRoe x = new DoeRoe();
    x.fiction(FORCE, 0, 0, 0);
    x.fiction(FORCE, 2, 0, 0);
    check.due("plead(0)", x.plead(0), 2);
    check.due("plead(0), it is", x.plead(0), DoeRoe.NO);
    check.due("plead(1), it may not be", x.plead(1), DoeRoe.NO);
    check.due("STEPS stay", x.now(2), 1);
    check.due("PAID stays", x.now(3), 2);
    check.due("count(6) stays", x.count(6), 1);
    check.status(x, "behind plead", 0, 2, 0);
  }

  private static void pleadAllSix() {
    DoeRoe x = new DoeRoe();
    for (int f = 0; f < 6; f++) {
      x.fiction(PLAIN, f == 0 ? 0 : 1 << (f + 1), f + 2, 20);
    }
    for (int f = 0; f < 6; f++) {
      check.due("may() at STEP " + f, x.may(), 1 << f);
      check.due("plead(" + f + ")", x.plead(f), 20);
      check.due("STEPS", x.now(2), f + 1);
      check.due("PAID", x.now(3), 20 * f + 20);
      check.due("PLEADED", x.now(1), low(f + 1));
      check.due("SUPPOSED", x.now(0), low(f + 1) << 2);
    }
    check.due("may() behind all", x.may(), 0);
    check.due("suit() of six", x.suit(), 6);
  }

  /** "it is PLEADED no more (all others stay; STEPS, PAID, too)" */
  private static void denyKeepsOthers() {
    DoeRoe x = new DoeRoe();
    x.fiction(SHIP, 224, 0, 5);
    x.fiction(TIME, 1, 1, 5);
    x.fiction(PLAIN, 2, 2, 5);
    x.plead(0);
    x.plead(1);
    x.plead(2);
    check.due("deny(0), on which others rest", x.deny(0), 1);
    check.due("PLEADED, all others stay", x.now(1), 6);
    check.due("SUPPOSED without what it gave", x.now(0), 6);
    check.due("STEPS stay", x.now(2), 3);
    check.due("PAID stays", x.now(3), 17);
    check.due("deny(1)", x.deny(1), 1);
    check.due("deny(2), a PLAIN one never", x.deny(2), 0);
    check.due("PLEADED, what rests", x.now(1), 4);
    // What two give is SUPPOSED as long as one of them is PLEADED, or if it is TRUE.
    x.book(0);
    x.fiction(SHIP, 7, 4, 0);
    x.fiction(PLAIN, 0, 4, 0);
    x.plead(0);
    x.plead(1);
    check.due("deny(0), another gives the same", x.deny(0), 1);
    check.due("SUPPOSED still", x.now(0), 16);
    x.book(16);
    x.fiction(SHIP, 7, 4, 0);
    x.plead(0);
    check.due("deny(0), what it gives is TRUE", x.deny(0), 1);
    check.due("SUPPOSED still", x.now(0), 16);
  }

  /** One that was denied may be PLEADED again, at the STEP as it is. */
  private static void denyThenPlead() {
    DoeRoe x = new DoeRoe();
    x.book(1);
    x.fiction(FORCE, 0, 6, 0);
    x.fiction(FORCE, 0, 7, 0);
    x.fiction(PERSONS, 192, 2, 9);
    x.plead(0);
    x.plead(1);
    check.due("plead(2) at STEP 2", x.plead(2), 5);
    check.due("deny(2)", x.deny(2), 1);
    check.due("deny(2), it is PLEADED no more", x.deny(2), DoeRoe.NO);
    check.due("may() again", x.may(), 4);
    check.due("plead(2) at STEP 3", x.plead(2), 5);
    check.due("STEPS", x.now(2), 4);
    check.due("PAID for both", x.now(3), 14);
    x.book(0);
    x.fiction(SHIP, 7, 6, 0);
    x.plead(0);
    x.deny(0);
    check.due("STEP 0 is behind: plead(0)", x.plead(0), DoeRoe.NO);
  }

  /** A suit in which PERSONS 2 can be PLEADED and denied over and over; two STEPS are behind. */
  private static DoeRoe overAndOver() {
    DoeRoe x = new DoeRoe();
    x.fiction(PLAIN, 0, 0, 1);
    x.fiction(PLAIN, 0, 1, 1);
    x.fiction(PERSONS, 3, 2, 8);
    x.plead(0);
    x.plead(1);
    x.court(0, 0);
    return x;
  }

  /** The n-th of PLEADED, denied, PLEADED, .. */
  private static void turn(DoeRoe x, int n) {
    check.due("turn " + n, n % 2 == 0 ? x.plead(2) : x.deny(2), n % 2 == 0 ? 4 : 1);
  }

  /** "8 at most": behind 0 .. 20 of them, 0 .. 8 may be undone */
  private static void undoOneToNine() {
    for (int turns = 0; turns <= 20; turns++) {
      DoeRoe x = overAndOver();
      for (int n = 0; n < turns; n++) {
        turn(x, n);
      }
      int most = Math.min(turns, 8);
      check.due("count(6) behind " + turns, x.count(6), most);
      for (int k = 1; k <= most; k++) {
        int left = turns - k;
        int pleads = (left + 1) / 2;
        check.due("undo() " + k + " of " + turns, x.undo(), 2 + pleads);
        check.due("PLEADED then", x.now(1), left % 2 == 0 ? 3 : 7);
        check.due("STEPS then", x.now(2), 2 + pleads);
        check.due("PAID then", x.now(3), 2 + 4 * pleads);
        check.due("count(6) then", x.count(6), most - k);
      }
      check.due("undo() of no more", x.undo(), DoeRoe.NO);
      check.due("STEPS stay", x.now(2), 2 + (turns - most + 1) / 2);
      check.status(x, "behind " + turns, 0, 1, 0);
    }
  }

  private static void undoOfMany() {
    DoeRoe x = overAndOver();
    for (int n = 0; n < 400; n++) {
      turn(x, n);
    }
    check.due("count(6) behind 400", x.count(6), 8);
    for (int k = 1; k <= 8; k++) {
      check.due("undo() " + k + " of 400", x.undo(), 2 + (401 - k) / 2);
    }
    check.due("undo() of a ninth", x.undo(), DoeRoe.NO);
    check.due("PLEADED then", x.now(1), 3);
  }

  /** What was undone is gone: the next one stands in its place. */
  private static void undoBehindUndo() {
    DoeRoe x = overAndOver();
    for (int n = 0; n < 10; n++) {
      turn(x, n);
    }
    for (int k = 0; k < 3; k++) {
      x.undo();
    }
    check.due("count(6) behind three", x.count(6), 5);
    check.due("PLEADED", x.now(1), 7);
    turn(x, 1);
    turn(x, 2);
    check.due("count(6) behind two more", x.count(6), 7);
    turn(x, 3);
    turn(x, 4);
    check.due("count(6), 8 at most", x.count(6), 8);
    int[] steps = {7, 7, 6, 6, 5, 5, 4, 4};
    for (int k = 0; k < 8; k++) {
      check.due("undo() " + k, x.undo(), steps[k]);
    }
    check.due("undo() of no more", x.undo(), DoeRoe.NO);
  }

  /** "behind a FICTION, a COURT that comes, a SUIT anew none may be" */
  private static void undoEnds() {
    for (int way = 0; way < 5; way++) {
      DoeRoe x = overAndOver();
      turn(x, 0);
      int answer = way == 0 ? x.fiction(0, 0, 0, 0) : way == 1 ? x.court(0, 0)
          : way == 2 ? x.suit() : way == 3 ? x.book(1) : x.from(0);
      int[] due = {3, 1, 3, 3, DoeRoe.NO};
      check.due("way " + way, answer, due[way]);
      check.due("count(6), way " + way, x.count(6), way < 4 ? 0 : 1);
      check.due("undo(), way " + way, x.undo(), way < 4 ? DoeRoe.NO : 2);
      check.due("PLEADED, way " + way, x.now(1), way < 2 ? 7 : way < 4 ? 0 : 3);
    }
  }

  /** Nothing else ends it: refused ones, NOTES, HEARD, THE TEXT, a FAULT, questions, an IMAGE */
  private static void undoStays() {
    DoeRoe x = Made.full();
    x.fiction(0, 0, 0, 0);
    x.court(0, 0);
    x.fiction(-1, 0, 0, 0);
    x.court(0, -1);
    x.book(-1);
    x.plead(0);
    x.deny(5);
    x.forget(0);
    x.forget(1);
    x.note(0, 0, 0);
    x.heard(0, 0);
    x.clear();
    x.read();
    x.odds(0, 5);
    x.terms(5, 60);
    x.image(0);
    check.due("count(6)", x.count(6), 8);
    check.due("undo()", x.undo(), 6);
    check.due("PLEADED ahead of it", x.now(1), 7);
  }

  /** of(f, 5) of one that is PLEADED is 0, of(f, 6) is what it would cost now */
  private static void ofPleaded() {
    for (int kind = 0; kind < 6; kind++) {
      DoeRoe x = new DoeRoe();
      x.fiction(PLAIN, 0, 0, 0);
      x.fiction(kind, 0, 1, 9);
      x.fiction(PLAIN, 0, 2, 0);
      x.plead(0);
      check.due("of(1, 4) ahead", x.of(1, 4), 0);
      check.due("of(1, 5) ahead", x.of(1, 5), 1);
      check.due("of(1, 6) ahead", x.of(1, 6), costs(kind, 9, 1));
      x.plead(1);
      check.due("of(1, 4) behind", x.of(1, 4), 1);
      check.due("of(1, 5) behind", x.of(1, 5), 0);
      check.due("of(1, 6) behind", x.of(1, 6), costs(kind, 9, 2));
      x.plead(2);
      check.due("of(1, 5) at STEP 3", x.of(1, 5), 0);
      check.due("of(1, 6) at STEP 3", x.of(1, 6), costs(kind, 9, 3));
    }
  }

  private static void nowOfAll() {
    DoeRoe x = new DoeRoe();
    x.book(3);
    for (int f = 0; f < 6; f++) {
      x.fiction(PLAIN, 0, f + 2, 20);
      x.plead(f);
    }
    int[] want = {255, 63, 6, 120, 3};
    for (int what = 0; what < 5; what++) {
      check.due("now(" + what + ") of all", x.now(what), want[what]);
    }
    check.due("count(2) of all", x.count(2), 8);
    check.due("count(3) of all", x.count(3), 6);
  }
}

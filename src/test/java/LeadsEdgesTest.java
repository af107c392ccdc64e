/** The edges of where it leads (promises 14 to 22). */
public final class LeadsEdgesTest {
  private static final Check check = new Check();
  private static final int PLAIN = 0, PERSONS = 1, FORCE = 2, TIME = 3, LETTER = 4, SHIP = 5;

  public static void main(String[] args) {
    ofANewObject();
    mayOfNoneAndAll();
    hearOfNoneAndAll();
    leastNow();
    leastOfNoFiction();
    leastNone();
    leastOfOneToSix();
    leastPaysFromNow();
    leastFirstRow();
    leastShorterAhead();
    leastDeniesNone();
    leastAtFarSteps();
    everOfNoneAndAll();
    everByOneOrTheOther();
    contradictByPair();
    giveUpNone();
    giveUpLeastOfLikeOnes();
    giveUpNotTrueOnes();
    denialByWhetherItWins();
    feesOfLikeOnes();
    feesNone();
    ruleOfAllAndNone();
    questionsChangeNothing();
    check.end("LeadsEdgesTest");
  }

  /** So many FICTIONS that need nothing and give FACTS 0, 1, .., each for a fee. */
  private static DoeRoe plain(int fictions, int fee) {
    DoeRoe x = new DoeRoe();
    for (int f = 0; f < fictions; f++) {
      x.fiction(PLAIN, 0, f, fee);
    }
    return x;
  }

  private static void row(DoeRoe x, int court, int what, int... want) {
    for (int i = 0; i < want.length + 2; i++) {
      check.due("least(" + court + ", " + what + ", " + i + ")", x.least(court, what, i),
          i < want.length ? want[i] : -5);
    }
    check.due("least, far off", x.least(court, what, Integer.MAX_VALUE), -5);
  }

  private static void ofANewObject() {
    DoeRoe x = new DoeRoe();
    check.due("may()", x.may(), 0);
    check.due("hear()", x.hear(), 0);
    check.due("least(0, 0, -1)", x.least(0, 0, -1), -10);
    check.due("ever()", x.ever(), 0);
    check.due("contradict()", x.contradict(), 0);
    check.due("giveUp()", x.giveUp(), 0);
    check.due("denial(0)", x.denial(0), DoeRoe.BAD);
    check.due("fees(0)", x.fees(0), DoeRoe.NONE);
    check.due("fees(1)", x.fees(1), DoeRoe.NONE);
    check.due("rule(0)", x.rule(0), DoeRoe.BAD);
    check.status(x, "of a new object", 3, 0, 0);
  }

  private static void mayOfNoneAndAll() {
    DoeRoe x = plain(6, 0);
    check.due("may() of all six", x.may(), 63);
    for (int f = 5; f >= 0; f--) {
      x.plead(f);
      check.due("may() without " + f, x.may(), (1 << f) - 1);
    }
    x.book(0);
    for (int f = 0; f < 6; f++) {
      x.fiction(PLAIN, 1 << f, f, 0);
    }
    check.due("may() of none", x.may(), 0);
  }

  private static void hearOfNoneAndAll() {
    DoeRoe x = new DoeRoe();
    for (int c = 0; c < 4; c++) {
      x.court(0, 20);
      check.due("hear(), NEEDS none, " + c, x.hear(), (2 << c) - 1);
    }
    x.book(127);
    for (int c = 0; c < 4; c++) {
      x.court(255, 0);
    }
    x.fiction(PLAIN, 0, 7, 0);
    check.due("hear(), one FACT is not SUPPOSED", x.hear(), 0);
    x.plead(0);
    check.due("hear(), all are", x.hear(), 15);
  }

  /** "the fewest (0: it does now)" */
  private static void leastNow() {
    DoeRoe x = plain(6, 0);
    x.court(0, 0);
    x.court(0, 20);
    for (int c = 0; c < 2; c++) {
      check.due("the fewest, now", x.least(c, 0, -1), 0);
      check.due("the cheapest, now: its own FEE", x.least(c, 1, -1), 20 * c);
      row(x, c, 0);
      row(x, c, 1);
    }
    x.court(63, 20);
    for (int f = 0; f < 6; f++) {
      x.plead(f);
    }
    check.due("the fewest, all are PLEADED", x.least(2, 0, -1), 0);
    check.due("the cheapest, all are PLEADED", x.least(2, 1, -1), 20);
    row(x, 2, 0);
    row(x, 2, 1);
    check.status(x, "behind least", 0, 0, 0);
  }

  private static void leastOfNoFiction() {
    DoeRoe x = new DoeRoe();
    x.book(1);
    x.court(1, 7);
    x.court(2, 7);
    check.due("the fewest, it is TRUE", x.least(0, 0, -1), 0);
    check.due("the cheapest, it is TRUE", x.least(0, 1, -1), 7);
    check.due("the fewest, none", x.least(1, 0, -1), DoeRoe.NONE);
    check.due("the cheapest, none", x.least(1, 1, -1), DoeRoe.NONE);
  }

  /** "NONE: none (whatever i is)" */
  private static void leastNone() {
    DoeRoe x = plain(6, 0);
    x.court(64, 0);
    x.court(192, 20);
    for (int c = 0; c < 2; c++) {
      for (int what = 0; what < 2; what++) {
        for (int i : new int[] {-1, 0, 1, 5, 6, 99, Integer.MAX_VALUE}) {
          check.due("least(" + c + ", " + what + ", " + i + ")", x.least(c, what, i),
              DoeRoe.NONE);
        }
        check.due("least with i below NONE", x.least(c, what, -2), -10);
      }
    }
    check.status(x, "behind none", 4, 0, 0);
  }

  /** A row of one to all six; "-5: not so many" from its end on */
  private static void leastOfOneToSix() {
    for (int many = 1; many <= 6; many++) {
      DoeRoe x = new DoeRoe();
      int[] want = new int[many];
      for (int f = 0; f < 6; f++) {
        // Each one NEEDS what the one with the next number gives, so that rows fall.
        x.fiction(PLAIN, f == 5 ? 0 : 1 << (f + 2), f + 1, 20);
      }
      for (int i = 0; i < many; i++) {
        want[i] = 5 - i;
      }
      x.court(1 << (7 - many), 20);
      check.due("the fewest, " + many, x.least(0, 0, -1), many);
      check.due("the cheapest, " + many, x.least(0, 1, -1), 20 * many + 20);
      row(x, 0, 0, want);
      row(x, 0, 1, want);
    }
  }

  /** "PLEADED one behind the other from now on": what was PAID is not counted again */
  private static void leastPaysFromNow() {
    DoeRoe x = plain(2, 20);
    x.fiction(SHIP, 0, 7, 1);
    x.court(128, 5);
    check.due("the cheapest at STEP 0", x.least(0, 1, -1), 8);
    x.plead(0);
    check.due("the cheapest at STEP 1", x.least(0, 1, -1), 9);
    x.plead(1);
    check.due("the cheapest at STEP 2", x.least(0, 1, -1), 10);
    x.plead(2);
    check.due("the cheapest, it hears it", x.least(0, 1, -1), 5);
  }

  /** "the first such row (.., rising)": of like ones the one with the lower number, place by place */
  private static void leastFirstRow() {
    DoeRoe x = new DoeRoe();
    for (int f = 0; f < 6; f++) {
      x.fiction(PLAIN, 0, f % 2, 3);
    }
    x.court(1, 0);
    x.court(2, 0);
    x.court(3, 0);
    row(x, 0, 0, 0);
    row(x, 1, 0, 1);
    row(x, 2, 0, 0, 1);
    row(x, 2, 1, 0, 1);
    x.plead(1);
    row(x, 2, 0, 0);
    x.suit();
    x.plead(4);
    row(x, 2, 0, 1);
    row(x, 2, 1, 1);
    // The one that is needed comes ahead of one with a lower number.
    x.book(0);
    x.fiction(PLAIN, 2, 2, 0);
    x.fiction(PLAIN, 0, 1, 0);
    x.fiction(PLAIN, 0, 1, 0);
    x.court(4, 0);
    row(x, 0, 0, 1, 0);
    row(x, 0, 1, 1, 0);
  }

  /** "shorter ones ahead of those that go on from them" */
  private static void leastShorterAhead() {
    DoeRoe x = plain(3, 0);
    x.court(1, 0);
    x.court(2, 0);
    x.court(4, 0);
    row(x, 0, 1, 0);
    row(x, 1, 1, 0, 1);
    row(x, 2, 1, 0, 1, 2);
    row(x, 0, 0, 0);
    row(x, 1, 0, 1);
    row(x, 2, 0, 2);
    // A like cost by two that begin lower is ahead of one by one that begins higher.
    x.book(0);
    x.fiction(PLAIN, 0, 6, 2);
    x.fiction(PLAIN, 64, 7, 3);
    x.fiction(PLAIN, 0, 7, 5);
    x.court(128, 1);
    check.due("like costs", x.least(0, 1, -1), 6);
    row(x, 0, 1, 0, 1);
    row(x, 0, 0, 2);
  }

  /** "(none denied)": a FACT that only a denial would help is not reached */
  private static void leastDeniesNone() {
    DoeRoe x = new DoeRoe();
    x.fiction(SHIP, 7, 7, 0);
    x.fiction(TIME, 128, 6, 0);
    x.fiction(TIME, 128, 5, 0);
    x.court(96, 0);
    check.due("TIME at STEPS 1 and 2", x.least(0, 0, -1), DoeRoe.NONE);
    x.fiction(PLAIN, 0, 0, 0);
    check.due("with one between", x.least(0, 0, -1), 4);
    row(x, 0, 0, 0, 1, 3, 2);
  }

  /** A row is as long as there are FICTIONS, at whatever STEP it begins. */
  private static void leastAtFarSteps() {
    DoeRoe x = new DoeRoe();
    x.fiction(PLAIN, 0, 0, 0);
    x.fiction(PLAIN, 0, 1, 0);
    x.fiction(PERSONS, 3, 2, 9);
    x.fiction(TIME, 3, 3, 9);
    x.fiction(SHIP, 3, 4, 9);
    x.court(4, 0);
    x.court(8, 0);
    x.court(16, 0);
    x.plead(0);
    x.plead(1);
    for (int d = 2; d < 60; d++) {
      check.due("PERSONS at STEP " + d, x.least(0, 1, -1), 5);
      check.due("TIME at STEP " + d, x.least(1, 0, -1), d % 2 == 1 ? 1 : 2);
      check.due("SHIP at STEP " + d, x.least(2, 1, -1), 11 + d);
      x.plead(2);
      x.deny(2);
    }
  }

  private static void everOfNoneAndAll() {
    DoeRoe x = new DoeRoe();
    x.book(255);
    check.due("ever(), all TRUE", x.ever(), 255);
    x.book(128);
    check.due("ever(), no FICTION", x.ever(), 128);
    for (int f = 0; f < 6; f++) {
      x.fiction(PLAIN, f == 0 ? 0 : 64 >> f << 2, 6 - f, 0);
      check.due("ever() of " + (f + 1), x.ever(), 128 | 127 >> (6 - f) << (6 - f));
    }
    x.book(128);
    for (int f = 0; f < 6; f++) {
      x.fiction(PLAIN, 1 << (7 - f), 6 - f, 0);
    }
    check.due("ever() by a row of six", x.ever(), 254);
    for (int f = 0; f < 6; f++) {
      x.plead(f);
    }
    check.due("ever(), all PLEADED", x.ever(), 254);
    x.book(0);
    for (int f = 0; f < 6; f++) {
      x.fiction(PLAIN, 1 << f, f, 0);
    }
    check.due("ever(), each NEEDS what it gives", x.ever(), 0);
  }

  /** "behind some row": not all behind the same one */
  private static void everByOneOrTheOther() {
    DoeRoe x = new DoeRoe();
    for (int f = 0; f < 6; f++) {
      x.fiction(f % 2 == 0 ? FORCE : SHIP, 128, f, 0);
    }
    check.due("ever(), one of six at STEP 0", x.ever(), 63);
    x.plead(3);
    check.due("ever() behind one", x.ever(), 8);
    // The FACTS of one that was denied are not SUPPOSED, and it may not be PLEADED again.
    x.deny(3);
    check.due("ever(), it is PLEADED", x.ever(), 8);
    x.book(0);
    x.fiction(SHIP, 7, 3, 0);
    x.plead(0);
    x.deny(0);
    check.due("ever(), it was denied", x.ever(), 0);
  }

  /** "0 and 1, 2 and 3, 4 and 5, 6 and 7 CONTRADICT each other": no two others do */
  private static void contradictByPair() {
    for (int a = 0; a < 8; a++) {
      for (int b = 0; b < 8; b++) {
        int want = a / 2 == b / 2 && a != b ? 1 << (a / 2) : 0;
        DoeRoe x = new DoeRoe();
        x.book(1 << a | 1 << b);
        check.due("contradict(), TRUE " + a + ", " + b, x.contradict(), want);
        check.due("giveUp(), TRUE " + a + ", " + b, x.giveUp(), want == 0 ? 0 : DoeRoe.NONE);
        x.book(1 << a);
        x.fiction(PLAIN, 0, b, 0);
        check.due("contradict() ahead of " + b, x.contradict(), 0);
        x.plead(0);
        check.due("contradict() of " + a + ", " + b, x.contradict(), want);
        check.due("giveUp() of " + a + ", " + b, x.giveUp(), want == 0 ? 0 : 1);
      }
    }
    DoeRoe x = new DoeRoe();
    x.book(255);
    check.due("contradict() of all", x.contradict(), 15);
  }

  /** "none: TRUE ones do" */
  private static void giveUpNone() {
    DoeRoe x = new DoeRoe();
    for (int pair = 0; pair < 4; pair++) {
      x.book(3 << 2 * pair);
      check.due("giveUp(), none PLEADED", x.giveUp(), DoeRoe.NONE);
      x.fiction(PLAIN, 0, 0, 0);
      x.plead(0);
      check.due("giveUp(), one PLEADED", x.giveUp(), DoeRoe.NONE);
    }
    x.book(170);
    check.due("giveUp(), no pair", x.giveUp(), 0);
    check.status(x, "behind giveUp", 0, 0, 0);
  }

  /** "the fewest PLEADED FICTIONS (bits; of like ones the least)" */
  private static void giveUpLeastOfLikeOnes() {
    DoeRoe x = new DoeRoe();
    int[] gives = {1, 0, 3, 2, 5, 4};
    for (int g : gives) {
      x.fiction(PLAIN, 0, g, 0);
    }
    for (int f = 5; f >= 0; f--) {
      x.plead(f);
    }
    check.due("one of each pair", x.giveUp(), 1 + 4 + 16);
    x.book(0);
    int[] more = {1, 1, 0, 3, 3, 2};
    for (int g : more) {
      x.fiction(PLAIN, 0, g, 0);
    }
    for (int f = 0; f < 6; f++) {
      x.plead(f);
    }
    check.due("the fewest are not the least number", x.giveUp(), 4 + 32);
    x.book(0);
    int[] like = {1, 1, 0, 0, 6, 7};
    for (int g : like) {
      x.fiction(PLAIN, 0, g, 0);
    }
    for (int f = 0; f < 6; f++) {
      x.plead(f);
    }
    check.due("two of like ones, one of like ones", x.giveUp(), 1 + 2 + 16);
  }

  /** "those that are TRUE and that all others of them GIVE": TRUE ones are not given up */
  private static void giveUpNotTrueOnes() {
    DoeRoe x = new DoeRoe();
    x.book(1);
    x.fiction(PLAIN, 0, 0, 0);
    x.fiction(PLAIN, 0, 1, 0);
    x.plead(0);
    x.plead(1);
    check.due("the one against the TRUE one", x.giveUp(), 2);
    // FACTS that rest on what is given up stay: only what each GIVES counts.
    x.book(0);
    x.fiction(PLAIN, 0, 0, 0);
    x.fiction(PLAIN, 1, 2, 0);
    x.fiction(PLAIN, 4, 1, 0);
    x.plead(0);
    x.plead(1);
    x.plead(2);
    check.due("the least of two", x.giveUp(), 1);
  }

  /** Two pleaders: at u one less than what WINS, at that */
  private static void denialByWhetherItWins() {
    int[] from = {9, 2, 9, 1, 9, 3};
    for (int kind = 0; kind < 6; kind++) {
      for (int u = 0; u <= 8; u++) {
        DoeRoe x = new DoeRoe();
        x.book(255);
        x.fiction(PLAIN, 0, 0, 0);
        x.fiction(kind, (1 << u) - 1, 0, 0);
        x.plead(0);
        check.due("denial(1), not PLEADED", x.denial(1), DoeRoe.NO);
        x.plead(1);
        check.due("denial(1), all TRUE, kind " + kind, x.denial(1), 4);
        suppose(x, kind, u, from[kind]);
      }
    }
  }

  private static void suppose(DoeRoe x, int kind, int u, int from) {
    if (u > 4) {
      return;
    }
    x.book(0);
    for (int f = 0; f < u; f++) {
      x.fiction(PLAIN, 0, f, 0);
      x.plead(f);
    }
    x.fiction(PLAIN, 0, 7, 0);
    x.fiction(kind, (1 << u) - 1, 0, 0);
    if (x.of(u + 1, 5) == 0) {
      x.plead(u);
    }
    check.isTrue("plead, kind " + kind + ", u " + u, x.plead(u + 1) >= 0);
    check.due("denial, kind " + kind + ", u " + u, x.denial(u + 1), u >= from ? 0 : 4);
  }

  /** "of like ones the least number" */
  private static void feesOfLikeOnes() {
    DoeRoe x = plain(2, 4);
    x.court(1, 5);
    x.court(2, 5);
    x.court(0, 9);
    x.court(0, 9);
    check.due("fees(0), all like", x.fees(0), 0);
    check.due("fees(1), all like", x.fees(1), 9);
    x.plead(1);
    check.due("fees(0) behind a step", x.fees(0), 1);
    check.due("fees(1) behind a step", x.fees(1), 5);
    x.book(0);
    x.court(128, 0);
    x.court(0, 20);
    x.court(128, 0);
    x.court(0, 20);
    check.due("fees(0), like ones behind none", x.fees(0), 1);
    check.due("fees(1), like ones behind none", x.fees(1), 20);
    x.book(0);
    for (int c = 0; c < 4; c++) {
      x.court(0, 20 - c);
      check.due("fees(0), the last", x.fees(0), c);
      check.due("fees(1), the last", x.fees(1), 20 - c);
    }
  }

  /** "none: to none there is a row" */
  private static void feesNone() {
    DoeRoe x = new DoeRoe();
    x.fiction(PLAIN, 0, 0, 0);
    check.due("fees(0), no COURT", x.fees(0), DoeRoe.NONE);
    check.due("fees(1), no COURT", x.fees(1), DoeRoe.NONE);
    for (int c = 0; c < 4; c++) {
      x.court(2 << c, 0);
      check.due("fees(0), no row", x.fees(0), DoeRoe.NONE);
      check.due("fees(1), no row", x.fees(1), DoeRoe.NONE);
    }
    x.fiction(PLAIN, 1, 4, 0);
    check.due("fees(0), a row of two", x.fees(0), 3);
    check.due("fees(1), a row that costs nothing", x.fees(1), 0);
    check.status(x, "behind fees", 0, 0, 0);
  }

  /** "the fewest FACTS that a COURT should NEED no more so that it HEARS it now" */
  private static void ruleOfAllAndNone() {
    for (int needs = 0; needs <= 255; needs += 5) {
      for (int facts = 0; facts <= 255; facts += 3) {
        DoeRoe x = new DoeRoe();
        x.book(facts);
        x.court(needs, 0);
        check.due("rule of " + needs + " by " + facts, x.rule(0), needs & ~facts);
        check.due("hear of " + needs + " by " + facts, x.hear(), (needs & ~facts) == 0 ? 1 : 0);
      }
    }
  }

  /** "Nothing is changed by these; a SUIT as it is goes on." */
  private static void questionsChangeNothing() {
    for (int full = 0; full < 2; full++) {
      DoeRoe x = full == 1 ? Made.full() : Made.busy();
      DoeRoe y = full == 1 ? Made.full() : Made.busy();
      x.may();
      x.hear();
      for (int c = 0; c < x.count(1); c++) {
        x.least(c, 0, -1);
        x.least(c, 0, 0);
        x.least(c, 1, -1);
        x.least(c, 1, 5);
        x.rule(c);
      }
      x.ever();
      x.contradict();
      x.giveUp();
      x.denial(0);
      x.fees(0);
      x.fees(1);
      x.is(0);
      x.look(0);
      x.truth(0);
      x.truth(1);
      x.truth(2);
      x.terms(0, 60);
      x.terms(999999, 60);
      for (int s = 0; s < 3; s++) {
        check.due("status(" + s + ") behind questions", x.status(s), y.status(s));
      }
      check.isTrue("all is as it was", Sight.of(x).equals(Sight.of(y)));
    }
  }
}

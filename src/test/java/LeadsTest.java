/** Promises 14 to 22: may, hear, least, ever, contradict, giveUp, denial, fees, rule. */
public final class LeadsTest {
  private static final Check check = new Check();
  private static final int PLAIN = 0, PERSONS = 1, FORCE = 2, TIME = 3, LETTER = 4, SHIP = 5;

  public static void main(String[] args) {
    may();
    hear();
    leastFewest();
    leastCheapest();
    leastFirstRow();
    leastOfSix();
    leastFromNow();
    leastRefused();
    ever();
    contradict();
    giveUp();
    denial();
    fees();
    rule();
    changesNothing();
    check.end("LeadsTest");
  }

  private static void may() {
    DoeRoe x = new DoeRoe();
    check.due("may() of none", x.may(), 0);
    x.book(1);
    x.fiction(PLAIN, 1, 1, 0);
    x.fiction(PLAIN, 2, 2, 0);
    x.fiction(FORCE, 16, 3, 0);
    x.fiction(TIME, 1, 4, 0);
    x.fiction(LETTER, 129, 5, 0);
    x.fiction(SHIP, 64, 6, 0);
    check.due("may() at first", x.may(), 1 + 4 + 16 + 32);
    x.plead(0);
    check.due("may() behind a step", x.may(), 2 + 8 + 16);
  }

  private static void hear() {
    DoeRoe x = new DoeRoe();
    check.due("hear() of none", x.hear(), 0);
    x.book(2);
    x.court(0, 0);
    x.court(2, 0);
    x.court(6, 0);
    x.court(130, 0);
    x.fiction(PLAIN, 0, 2, 0);
    x.fiction(PLAIN, 0, 7, 0);
    check.due("hear() at first", x.hear(), 3);
    x.plead(0);
    check.due("hear() behind one", x.hear(), 7);
    x.plead(1);
    check.due("hear() behind two", x.hear(), 15);
  }

  private static void row(DoeRoe x, int court, int what, int... want) {
    for (int i = 0; i < want.length; i++) {
      check.due("least(" + court + ", " + what + ", " + i + ")", x.least(court, what, i), want[i]);
    }
    for (int i = want.length; i < want.length + 8; i++) {
      check.due("least(" + court + ", " + what + ", " + i + ")", x.least(court, what, i), -5);
    }
    check.due("least, far off", x.least(court, what, Integer.MAX_VALUE), -5);
  }

  private static void leastFewest() {
    DoeRoe x = new DoeRoe();
    x.book(1);
    x.court(1, 9);
    x.court(128, 3);
    x.court(64, 3);
    x.fiction(PLAIN, 2, 7, 0);
    x.fiction(PLAIN, 4, 1, 0);
    x.fiction(PLAIN, 1, 2, 0);
    check.due("fewest, now", x.least(0, 0, -1), 0);
    row(x, 0, 0);
    check.due("fewest, three", x.least(1, 0, -1), 3);
    row(x, 1, 0, 2, 1, 0);
    check.due("fewest, none", x.least(2, 0, -1), DoeRoe.NONE);
    check.due("fewest, none, i", x.least(2, 0, 0), DoeRoe.NONE);
    check.due("fewest, none, i far off", x.least(2, 0, 99), DoeRoe.NONE);
    x.fiction(FORCE, 255, 7, 20);
    check.due("fewest, one", x.least(1, 0, -1), 1);
    row(x, 1, 0, 3);
    check.status(x, "behind least", 0, 0, 0);
  }

  private static void leastCheapest() {
    DoeRoe x = new DoeRoe();
    x.court(128, 3);
    x.court(0, 8);
    x.fiction(PLAIN, 0, 7, 20);
    x.fiction(PLAIN, 4, 7, 6);
    x.fiction(PLAIN, 0, 2, 5);
    check.due("cheapest", x.least(0, 1, -1), 14);
    row(x, 0, 1, 2, 1);
    check.due("fewest", x.least(0, 0, -1), 1);
    row(x, 0, 0, 0);
    check.due("cheapest, now", x.least(1, 1, -1), 8);
    row(x, 1, 1);
    x.fiction(TIME, 0, 7, 11);
    check.due("as cheap", x.least(0, 1, -1), 14);
    row(x, 0, 1, 2, 1);
    x.fiction(PERSONS, 0, 7, 10);
    check.due("cheaper", x.least(0, 1, -1), 13);
    row(x, 0, 1, 4);
    x.court(32, 0);
    check.due("cheapest, none", x.least(2, 1, -1), DoeRoe.NONE);
    check.due("cheapest, none, i", x.least(2, 1, 5), DoeRoe.NONE);
  }

  private static void leastFirstRow() {
    DoeRoe x = new DoeRoe();
    x.court(2, 0);
    x.fiction(PLAIN, 0, 0, 0);
    x.fiction(PLAIN, 0, 1, 0);
    check.due("a row that costs nothing", x.least(0, 1, -1), 0);
    row(x, 0, 1, 0, 1);
    row(x, 0, 0, 1);
    x = new DoeRoe();
    x.court(3, 0);
    x.fiction(PLAIN, 0, 1, 2);
    x.fiction(PLAIN, 0, 0, 2);
    x.fiction(PLAIN, 0, 1, 2);
    row(x, 0, 0, 0, 1);
    row(x, 0, 1, 0, 1);
    x.suit();
    x.plead(2);
    row(x, 0, 0, 1);
    row(x, 0, 1, 1);
  }

  private static void leastOfSix() {
    DoeRoe x = new DoeRoe();
    x.court(63, 1);
    int[] needs = {62, 60, 56, 48, 32, 0};
    for (int f = 0; f < 6; f++) {
      x.fiction(PLAIN, needs[f], f, 2);
    }
    check.due("a row of six", x.least(0, 0, -1), 6);
    row(x, 0, 0, 5, 4, 3, 2, 1, 0);
    check.due("what six cost", x.least(0, 1, -1), 13);
    row(x, 0, 1, 5, 4, 3, 2, 1, 0);
    check.due("ever() by six", x.ever(), 63);
  }

  private static void leastFromNow() {
    DoeRoe x = new DoeRoe();
    x.court(128, 0);
    x.fiction(PERSONS, 0, 7, 9);
    x.fiction(PLAIN, 0, 1, 1);
    x.fiction(PLAIN, 0, 2, 1);
    check.due("by half from step 2 on", x.least(0, 1, -1), 7);
    row(x, 0, 1, 1, 2, 0);
    x.plead(2);
    check.due("one step on", x.least(0, 1, -1), 6);
    row(x, 0, 1, 1, 0);
    x.plead(1);
    check.due("two steps on", x.least(0, 1, -1), 5);
    row(x, 0, 1, 0);
    x.plead(0);
    check.due("heard", x.least(0, 1, -1), 0);
    row(x, 0, 1);
    x.undo();
    check.due("undone", x.least(0, 0, -1), 1);
  }

  private static void leastRefused() {
    DoeRoe x = new DoeRoe();
    check.due("least of no court", x.least(0, 0, -1), -10);
    x.court(1, 0);
    check.due("least(-1, 0, 0)", x.least(-1, 0, 0), -10);
    check.due("least(1, 0, 0)", x.least(1, 0, 0), -10);
    check.due("least(0, -1, 0)", x.least(0, -1, 0), -10);
    check.due("least(0, 2, 0)", x.least(0, 2, 0), -10);
    check.due("least(0, 0, -2)", x.least(0, 0, -2), -10);
    check.due("least(0, 0, 0), none", x.least(0, 0, 0), DoeRoe.NONE);
    check.status(x, "behind refused least", 6, 0, 0);
  }

  private static void ever() {
    DoeRoe x = new DoeRoe();
    check.due("ever() of none", x.ever(), 0);
    x.book(1);
    x.fiction(TIME, 1, 1, 0);
    check.due("TIME needs an odd step", x.ever(), 1);
    x.fiction(PLAIN, 1, 2, 0);
    check.due("and gets one", x.ever(), 7);
    x.fiction(TIME, 2, 3, 0);
    check.due("but not the next", x.ever(), 7);
    x.fiction(PLAIN, 2, 4, 0);
    check.due("behind one more it does", x.ever(), 31);
    x.fiction(PLAIN, 192, 5, 0);
    check.due("a need that is never met", x.ever(), 31);
    x.fiction(FORCE, 255, 6, 0);
    check.due("FORCE at first", x.ever(), 95);
    x.plead(1);
    check.due("FORCE too late", x.ever(), 31);
    x.book(0);
    x.fiction(FORCE, 128, 3, 0);
    x.fiction(SHIP, 128, 6, 0);
    check.due("one or the other, never both", x.ever(), 72);
  }

  private static void contradict() {
    DoeRoe x = new DoeRoe();
    int[] facts = {0, 3, 6, 12, 48, 192, 255, 170, 85, 195};
    int[] pairs = {0, 1, 0, 2, 4, 8, 15, 0, 0, 9};
    for (int i = 0; i < facts.length; i++) {
      x.book(facts[i]);
      check.due("contradict() of " + facts[i], x.contradict(), pairs[i]);
    }
    x.book(16);
    x.fiction(PLAIN, 0, 5, 0);
    check.due("contradict() ahead", x.contradict(), 0);
    x.plead(0);
    check.due("contradict() behind", x.contradict(), 4);
  }

  private static void giveUp() {
    DoeRoe x = new DoeRoe();
    check.due("giveUp() of none", x.giveUp(), 0);
    x.book(3);
    check.due("giveUp(), TRUE ones contradict", x.giveUp(), DoeRoe.NONE);
    x.book(0);
    int[] gives = {0, 1, 1, 2, 3, 6};
    for (int g : gives) {
      x.fiction(PLAIN, 0, g, 0);
    }
    check.due("giveUp(), none PLEADED", x.giveUp(), 0);
    x.plead(3);
    x.plead(4);
    check.due("the least of like ones", x.giveUp(), 8);
    x.plead(1);
    x.plead(2);
    x.plead(0);
    x.plead(5);
    check.due("the fewest", x.giveUp(), 1 + 8);
    x.book(0);
    x.fiction(PLAIN, 0, 7, 0);
    x.fiction(PLAIN, 0, 7, 0);
    x.fiction(PLAIN, 0, 6, 0);
    x.plead(0);
    x.plead(1);
    x.plead(2);
    check.due("the fewest, though no least number", x.giveUp(), 4);
    x.book(85);
    for (int f = 0; f < 6; f++) {
      x.fiction(PLAIN, 0, 1 + 2 * (f % 4), 0);
      x.plead(f);
    }
    check.due("all six", x.giveUp(), 63);
    x.book(1);
    x.fiction(PLAIN, 0, 0, 0);
    x.fiction(PLAIN, 0, 1, 0);
    x.fiction(PLAIN, 0, 1, 0);
    x.plead(0);
    x.plead(1);
    x.plead(2);
    check.due("all against a TRUE one", x.giveUp(), 6);
  }

  private static void denial() {
    DoeRoe x = new DoeRoe();
    check.due("denial(0) of none", x.denial(0), DoeRoe.BAD);
    x.fiction(SHIP, 7, 0, 0);
    x.fiction(PLAIN, 0, 1, 0);
    check.due("denial(0), not PLEADED", x.denial(0), DoeRoe.NO);
    check.due("denial(-1)", x.denial(-1), DoeRoe.BAD);
    check.due("denial(2)", x.denial(2), DoeRoe.BAD);
    x.plead(0);
    x.plead(1);
    check.due("denial(0), it wins: none rests", x.denial(0), 0);
    check.due("denial(1), it does not: stands, not denied", x.denial(1), 4);
    check.status(x, "behind denial", 3, 1, 0);
  }

  private static void fees() {
    DoeRoe x = new DoeRoe();
    check.due("fees(0) of none", x.fees(0), DoeRoe.NONE);
    check.due("fees(1) of none", x.fees(1), DoeRoe.NONE);
    check.due("fees(-1)", x.fees(-1), DoeRoe.BAD);
    check.due("fees(2)", x.fees(2), DoeRoe.BAD);
    x.court(1, 0);
    check.due("fees(0), no row", x.fees(0), DoeRoe.NONE);
    check.due("fees(1), no row", x.fees(1), DoeRoe.NONE);
    x.court(2, 5);
    x.court(4, 3);
    x.court(6, 0);
    x.fiction(PLAIN, 0, 1, 7);
    x.fiction(PLAIN, 0, 2, 9);
    check.due("fees(0), like ones", x.fees(0), 1);
    check.due("fees(1), like ones", x.fees(1), 12);
    x.plead(1);
    check.due("fees(0) behind a step", x.fees(0), 2);
    check.due("fees(1) behind a step", x.fees(1), 3);
    x.plead(0);
    check.due("fees(0), more courts hear it", x.fees(0), 3);
    check.due("fees(1), more courts hear it", x.fees(1), 0);
    x.book(0);
    x.court(0, 4);
    x.court(0, 4);
    check.due("fees(0), the first of like ones", x.fees(0), 0);
    check.due("fees(1), the first of like ones", x.fees(1), 4);
    x.court(0, 3);
    check.due("fees(0), the last", x.fees(0), 2);
    check.status(x, "behind fees", 2, 0, 0);
  }

  private static void rule() {
    DoeRoe x = new DoeRoe();
    check.due("rule(0) of none", x.rule(0), DoeRoe.BAD);
    x.book(129);
    x.court(255, 0);
    x.court(129, 0);
    x.fiction(PLAIN, 0, 3, 0);
    check.due("rule(0)", x.rule(0), 126);
    check.due("rule(1)", x.rule(1), 0);
    x.plead(0);
    check.due("rule(0) behind a step", x.rule(0), 118);
    check.due("rule(-1)", x.rule(-1), DoeRoe.BAD);
    check.due("rule(2)", x.rule(2), DoeRoe.BAD);
    check.status(x, "behind rule", 3, 0, 0);
  }

  private static void changesNothing() {
    DoeRoe x = new DoeRoe();
    x.book(1);
    x.court(255, 4);
    x.court(6, 4);
    x.fiction(SHIP, 7, 1, 3);
    x.fiction(LETTER, 3, 2, 3);
    x.fiction(TIME, 1, 3, 3);
    x.plead(0);
    long before = x.digest();
    x.may();
    x.hear();
    x.least(0, 0, -1);
    x.least(1, 1, 0);
    x.ever();
    x.contradict();
    x.giveUp();
    x.denial(0);
    x.fees(0);
    x.rule(0);
    x.is(0);
    x.look(0);
    x.truth(0);
    x.terms(17, 60);
    check.due("digest behind questions", x.digest(), before);
    check.due("the suit goes on", x.plead(1), 3);
  }
}

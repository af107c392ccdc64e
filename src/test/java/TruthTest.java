/** Promises 23 to 30: note, heard, forget, is, look, truth, odds, terms. */
public final class TruthTest {
  private static final Check check = new Check();
  private static final int PLAIN = 0, PERSONS = 1, FORCE = 2, TIME = 3, LETTER = 4, SHIP = 5;

  public static void main(String[] args) {
    note();
    heard();
    forget();
    is();
    look();
    truth();
    odds();
    oddsOfMany();
    oddsSharedFact();
    terms();
    termsRefused();
    check.end("TruthTest");
  }

  private static void note() {
    DoeRoe x = new DoeRoe();
    check.due("note of none", x.note(0, 0, 0), DoeRoe.BAD);
    x.fiction(PLAIN, 0, 0, 5);
    int[][] bad = {{-1, 0, 0}, {1, 0, 0}, {0, -1, 0}, {0, 21, 0}, {0, 0, -1}, {0, 0, 61}};
    for (int[] b : bad) {
      check.due("a bad note", x.note(b[0], b[1], b[2]), DoeRoe.BAD);
    }
    for (int i = 1; i <= 6; i++) {
      check.due("note " + i, x.note(0, 20, 60), i);
    }
    check.due("a 7th note", x.note(0, 0, 0), DoeRoe.FULL);
    check.due("a bad 7th note", x.note(0, 0, 61), DoeRoe.BAD);
    check.due("count(4)", x.count(4), 6);
    check.status(x, "behind notes", 8, 0, 1);
  }

  private static void heard() {
    DoeRoe x = new DoeRoe();
    check.due("heard of none", x.heard(0, 0), DoeRoe.BAD);
    x.court(0, 0);
    check.due("heard(-1, 0)", x.heard(-1, 0), DoeRoe.BAD);
    check.due("heard(1, 0)", x.heard(1, 0), DoeRoe.BAD);
    check.due("heard(0, -1)", x.heard(0, -1), DoeRoe.BAD);
    check.due("heard(0, 2)", x.heard(0, 2), DoeRoe.BAD);
    for (int i = 1; i <= 6; i++) {
      check.due("heard " + i, x.heard(0, i % 2), i);
    }
    check.due("a 7th heard", x.heard(0, 0), DoeRoe.FULL);
    check.due("a bad 7th heard", x.heard(0, 2), DoeRoe.BAD);
    check.due("count(5)", x.count(5), 6);
    check.status(x, "behind heard", 6, 0, 1);
  }

  private static void forget() {
    DoeRoe x = new DoeRoe();
    x.fiction(PLAIN, 0, 0, 5);
    x.court(0, 0);
    x.note(0, 0, 0);
    x.note(0, 1, 1);
    x.heard(0, 1);
    check.due("forget(-1)", x.forget(-1), DoeRoe.BAD);
    check.due("forget(2)", x.forget(2), DoeRoe.BAD);
    check.due("forget(0)", x.forget(0), 2);
    check.due("count(4)", x.count(4), 0);
    check.due("count(5)", x.count(5), 1);
    check.due("forget(1)", x.forget(1), 1);
    check.due("count(5) then", x.count(5), 0);
    check.due("forget(1) again", x.forget(1), 0);
    check.due("is(0) behind forget", x.is(0), 63);
    check.due("a note anew", x.note(0, 0, 0), 1);
    check.status(x, "behind forget", 2, 0, 0);
  }

  private static void is() {
    DoeRoe x = new DoeRoe();
    check.due("is(0) of none", x.is(0), DoeRoe.BAD);
    x.fiction(SHIP, 0, 0, 7);
    x.fiction(PLAIN, 0, 0, 7);
    check.due("is(-1)", x.is(-1), DoeRoe.BAD);
    check.due("is(2)", x.is(2), DoeRoe.BAD);
    check.due("is(0), no note", x.is(0), 63);
    int[][] told = {{0, 7, 27}, {1, 7, 27}, {2, 7, 17}, {2, 4, 10}, {0, 9, 36}, {1, 9, 4},
        {1, 10, 32}, {20, 29, 32}, {20, 9, 4}, {20, 4, 10}, {3, 3, 0}};
    for (int[] t : told) {
      x.note(0, t[0], t[1]);
      check.due("is(0) by step " + t[0] + ", paid " + t[1], x.is(0), t[2]);
      check.due("is(1), not noted", x.is(1), 63);
      x.forget(0);
    }
    x.note(0, 0, 7);
    x.note(1, 1, 9);
    x.note(0, 3, 4);
    check.due("is(0) by two", x.is(0), 10);
    check.due("is(1) by one", x.is(1), 4);
    x.note(0, 2, 9);
    check.due("is(0) by three", x.is(0), 0);
    check.status(x, "behind is", 3, 0, 0);
  }

  private static void look() {
    DoeRoe x = new DoeRoe();
    check.due("look(0) of none", x.look(0), DoeRoe.BAD);
    x.fiction(PLAIN, 0, 0, 7);
    x.fiction(PLAIN, 0, 0, 0);
    x.fiction(PLAIN, 0, 0, 1);
    check.due("look(-1)", x.look(-1), DoeRoe.BAD);
    check.due("look(3)", x.look(3), DoeRoe.BAD);
    check.due("look(0)", x.look(0), 2);
    check.due("look(1), four cost nothing ever", x.look(1), 0);
    check.due("look(2), half of 1 is 1", x.look(2), 0);
    x.note(0, 0, 9);
    check.due("look(0), FORCE or SHIP", x.look(0), 1);
    x.note(0, 1, 9);
    check.due("look(0), FORCE", x.look(0), 0);
    x.note(0, 1, 10);
    check.due("look(0), no KIND", x.look(0), DoeRoe.NONE);
    x.forget(0);
    x.note(0, 2, 4);
    check.due("look(0), PERSONS or TIME", x.look(0), 0);
    check.status(x, "behind look", 3, 0, 0);
  }

  private static void truths(DoeRoe x, String when, int many, int all, int some) {
    check.due("truth(0) " + when, x.truth(0), many);
    check.due("truth(1) " + when, x.truth(1), all);
    check.due("truth(2) " + when, x.truth(2), some);
  }

  private static void truth() {
    DoeRoe x = new DoeRoe();
    x.book(255);
    x.court(1, 0);
    x.court(20, 0);
    x.court(12, 0);
    x.court(0, 0);
    check.due("truth(-1)", x.truth(-1), DoeRoe.BAD);
    check.due("truth(3)", x.truth(3), DoeRoe.BAD);
    truths(x, "at first, whatever is TRUE", 81, 0, 255);
    x.heard(0, 1);
    truths(x, "with FACT 0", 27, 1, 253);
    x.heard(1, 1);
    truths(x, "with FACTS 2, 4 too", 3, 21, 213);
    x.heard(2, 0);
    truths(x, "and what never is", 3, 21, 213);
    x.forget(1);
    x.heard(1, 0);
    truths(x, "not both of 2 and 4", 72, 0, 255);
    x.heard(3, 1);
    truths(x, "what needs none is heard", 72, 0, 255);
    x.heard(2, 1);
    truths(x, "of a contradiction", 0, DoeRoe.NONE, 0);
    x.forget(1);
    x.heard(3, 0);
    truths(x, "what needs none is not heard", 0, DoeRoe.NONE, 0);
    check.status(x, "behind truth", 2, 0, 0);
  }

  private static void oddsAre(DoeRoe x, int court, int c, long above, long below) {
    check.due("odds(" + court + ", " + c + ")", x.odds(court, c), 1);
    check.due("part(0) by " + c, x.part(0), above);
    check.due("part(1) by " + c, x.part(1), below);
  }

  private static void odds() {
    DoeRoe x = new DoeRoe();
    check.due("odds(0, 0) of none", x.odds(0, 0), DoeRoe.BAD);
    x.court(192, 0);
    x.fiction(SHIP, 7, 0, 0);
    x.fiction(PLAIN, 0, 6, 0);
    x.fiction(PERSONS, 65, 7, 0);
    oddsAre(x, 0, 3, 0, 1);
    x.plead(0);
    x.plead(1);
    x.plead(2);
    check.due("now(0)", x.now(0), 193);
    oddsAre(x, 0, 0, 1, 1);
    oddsAre(x, 0, 3, 7, 10);
    oddsAre(x, 0, 4, 3, 5);
    oddsAre(x, 0, 10, 0, 1);
    x.court(193, 0);
    oddsAre(x, 1, 3, 49, 100);
    oddsAre(x, 1, 5, 1, 4);
    check.due("odds(-1, 3)", x.odds(-1, 3), DoeRoe.BAD);
    check.due("odds(2, 3)", x.odds(2, 3), DoeRoe.BAD);
    check.due("odds(0, -1)", x.odds(0, -1), DoeRoe.BAD);
    check.due("odds(0, 11)", x.odds(0, 11), DoeRoe.BAD);
    check.due("part(0) stays", x.part(0), 1);
    check.due("part(1) stays", x.part(1), 4);
    check.due("nothing else is changed", x.now(1), 7);
    check.status(x, "behind odds", 5, 0, 0);
  }

  private static void oddsOfMany() {
    DoeRoe x = new DoeRoe();
    x.fiction(LETTER, 0, 0, 0);
    x.fiction(PLAIN, 0, 1, 0);
    x.fiction(PERSONS, 3, 7, 0);
    x.fiction(PERSONS, 3, 7, 0);
    x.fiction(PERSONS, 3, 7, 0);
    x.fiction(PERSONS, 3, 7, 0);
    x.court(128, 0);
    for (int f = 0; f < 6; f++) {
      x.plead(f);
    }
    oddsAre(x, 0, 1, 9999, 10000);
    oddsAre(x, 0, 9, 10000 - 6561, 10000);
    // One that needs what was denied stays PLEADED, and may be denied itself.
    x.book(0);
    x.fiction(SHIP, 224, 5, 0);
    x.fiction(TIME, 32, 7, 0);
    x.plead(0);
    x.plead(1);
    x.deny(0);
    x.court(0, 0);
    oddsAre(x, 0, 7, 1, 1);
    x.court(128, 0);
    oddsAre(x, 1, 7, 3, 10);
  }

  private static void oddsSharedFact() {
    DoeRoe x = new DoeRoe();
    x.court(128, 0);
    x.fiction(SHIP, 7, 7, 0);
    x.fiction(LETTER, 128, 0, 0);
    x.fiction(TIME, 1, 7, 0);
    x.fiction(PLAIN, 0, 1, 0);
    x.plead(0);
    x.plead(1);
    x.plead(3);
    x.plead(2);
    check.due("now(1)", x.now(1), 15);
    oddsAre(x, 0, 3, 91, 100);
    oddsAre(x, 0, 1, 99, 100);
    oddsAre(x, 0, 10, 0, 1);
  }

  private static void terms() {
    DoeRoe x = new DoeRoe();
    check.due("terms of none", x.terms(0, 60), 0);
    for (int f = 0; f < 6; f++) {
      x.fiction(PLAIN, 0, f, 1);
    }
    x.court(0, 0);
    x.court(1, 0);
    x.court(2, 0);
    x.court(63, 0);
    check.due("terms(0, 0)", x.terms(0, 0), 1);
    // By a SEED of 1 the FICTIONS are 16838, 5758, 10113, 17515 (and so on), by 6 left over.
    int[] drawn = {16838 % 6, 5758 % 6, 10113 % 6, 17515 % 6, 31051 % 6, 5627 % 6, 23010 % 6};
    int facts = 0;
    for (int n = 0; n <= drawn.length; n++) {
      int hears = 1 + (facts & 1) + (facts >> 1 & 1) + (facts == 63 ? 1 : 0);
      check.due("terms(1, " + n + ")", x.terms(1, n), hears);
      facts |= n < drawn.length ? 1 << drawn[n] : 0;
    }
    x.plead(0);
    check.due("terms from the suit as it is", x.terms(1, 0), 2);
    check.due("now(1) behind terms", x.now(1), 1);
    check.due("count(6) behind terms", x.count(6), 1);
    termsDenied();
  }

  private static void termsDenied() {
    DoeRoe x = new DoeRoe();
    for (int f = 0; f < 6; f++) {
      x.fiction(f == 2 ? SHIP : PLAIN, f == 2 ? 7 : 128, f, 1);
    }
    x.court(4, 0);
    x.plead(2);
    // 16838 by 6 leaves 2: it is PLEADED, denied, and that WINS.
    check.due("terms(1, 0), it is PLEADED", x.terms(1, 0), 1);
    check.due("terms(1, 1), it is denied", x.terms(1, 1), 0);
    x.suit();
    check.due("terms(1, 1), it is PLEADED at STEP 0", x.terms(1, 1), 1);
    // 2 is drawn again as the 21st, 30th, 31st: denied, and no more to be PLEADED behind STEP 0.
    check.due("terms(1, 20)", x.terms(1, 20), 1);
    check.due("terms(1, 21)", x.terms(1, 21), 0);
    check.due("terms(1, 30)", x.terms(1, 30), 0);
    check.due("terms(1, 31)", x.terms(1, 31), 0);
    // With TIME, which needs an odd STEP, a denial is no STEP: 2, 4, 3, 1, 1, 5 are drawn.
    x.book(0);
    for (int f = 0; f < 6; f++) {
      x.fiction(f == 4 || f == 5 ? TIME : PLAIN, f == 1 ? 64 : 0, f, 0);
    }
    x.court(16, 0);
    x.court(32, 0);
    check.due("terms(1, 1), at STEP 0", x.terms(1, 1), 0);
    check.due("terms(1, 2), TIME at STEP 1", x.terms(1, 2), 1);
    check.due("terms(1, 6), TIME at STEP 3", x.terms(1, 6), 2);
    x.plead(0);
    check.due("terms(1, 2), TIME at STEP 2", x.terms(1, 2), 0);
  }

  private static void termsRefused() {
    DoeRoe x = new DoeRoe();
    check.due("terms(-1, 0)", x.terms(-1, 0), DoeRoe.BAD);
    check.due("terms(1000000, 0)", x.terms(1000000, 0), DoeRoe.BAD);
    check.due("terms(0, -1)", x.terms(0, -1), DoeRoe.BAD);
    check.due("terms(0, 61)", x.terms(0, 61), DoeRoe.BAD);
    check.due("terms(999999, 60)", x.terms(999999, 60), 0);
    check.status(x, "behind terms", 4, 0, 0);
  }
}

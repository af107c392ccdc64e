/**
 * The last numbers that are as told, on both sides, call by call: each is taken, and is what was
 * told. RefusedTest has the first ones that are not.
 */
public final class BoundsTest {
  private static final Check check = new Check();
  private static final int PLAIN = 0, SHIP = 5;

  public static void main(String[] args) {
    bookFacts();
    fictionNumbers();
    courtNumbers();
    typeBytes();
    textLength();
    pleadAndDeny();
    of();
    now();
    least();
    denial();
    fees();
    rule();
    note();
    heard();
    forget();
    isAndLook();
    truth();
    odds();
    terms();
    part();
    images();
    status();
    count();
    check.end("BoundsTest");
  }

  /** So many FICTIONS that need nothing and give FACTS 0, 1, .., for 1, 2, .. */
  private static DoeRoe plain(int fictions) {
    DoeRoe x = new DoeRoe();
    for (int f = 0; f < fictions; f++) {
      x.fiction(PLAIN, 0, f, f + 1);
    }
    return x;
  }

  /** TRUE FACTS are bits 0 .. 255. */
  private static void bookFacts() {
    for (int facts = 0; facts <= 255; facts++) {
      DoeRoe x = new DoeRoe();
      check.due("book(" + facts + ")", x.book(facts), 0);
      check.due("now(4) behind it", x.now(4), facts);
      check.due("now(0) behind it", x.now(0), facts);
      check.status(x, "behind it", 0, 0, 0);
    }
  }

  /** FICTIONS 0 .. 5: a KIND 0 .. 5, NEEDS 0 .. 255, GIVES 0 .. 7, a FEE 0 .. 20. */
  private static void fictionNumbers() {
    int[][] told = {{0, 0, 0, 0}, {5, 0, 0, 0}, {0, 255, 0, 0}, {0, 0, 7, 0}, {0, 0, 0, 20},
        {5, 255, 7, 20}};
    DoeRoe x = new DoeRoe();
    for (int f = 0; f < 6; f++) {
      int[] t = told[f];
      check.due("fiction " + f, x.fiction(t[0], t[1], t[2], t[3]), f);
      check.due("count(0) behind it", x.count(0), f + 1);
    }
    for (int f = 0; f < 6; f++) {
      for (int what = 0; what < 4; what++) {
        check.due("of(" + f + ", " + what + ")", x.of(f, what), told[f][what]);
      }
    }
    check.due("the 7th", x.fiction(0, 0, 0, 0), DoeRoe.FULL);
    check.due("count(0) behind it", x.count(0), 6);
    check.due("book(0)", x.book(0), 6);
    check.due("the 1st again", x.fiction(0, 0, 0, 0), 0);
    check.status(x, "behind fictions", 0, 0, 1);
  }

  /** COURTS 0 .. 3: NEEDS 0 .. 255, a FEE 0 .. 20. */
  private static void courtNumbers() {
    int[][] told = {{0, 0}, {255, 0}, {0, 20}, {255, 20}};
    DoeRoe x = new DoeRoe();
    x.book(254);
    x.fiction(PLAIN, 0, 0, 0);
    for (int c = 0; c < 4; c++) {
      check.due("court " + c, x.court(told[c][0], told[c][1]), c);
      check.due("count(1) behind it", x.count(1), c + 1);
    }
    for (int c = 0; c < 4; c++) {
      check.due("rule(" + c + ")", x.rule(c), told[c][0] & 1);
      check.due("FEE of " + c, x.least(c, 1, -1), told[c][1]);
    }
    check.due("the 5th", x.court(0, 0), DoeRoe.FULL);
    check.due("count(1) behind it", x.count(1), 4);
    x.book(0);
    check.due("the 1st again", x.court(0, 0), 0);
    check.status(x, "behind courts", 0, 0, 1);
  }

  /** A byte is 0 .. 127. */
  private static void typeBytes() {
    DoeRoe x = new DoeRoe();
    for (int c = 0; c <= 127; c++) {
      check.due("type(" + c + ")", x.type(c), c + 1);
    }
    check.due("clear() of all", x.clear(), 128);
    check.status(x, "behind all bytes", 0, 0, 0);
  }

  /** THE TEXT has 150 bytes at most, and none behind clear. */
  private static void textLength() {
    DoeRoe x = new DoeRoe();
    check.due("clear() of none", x.clear(), 0);
    for (int k = 1; k <= 149; k++) {
      x.type(32);
    }
    check.due("the 150th", x.type(32), 150);
    check.due("the 151st", x.type(32), DoeRoe.FULL);
    check.due("the 152nd", x.type(32), DoeRoe.FULL);
    check.due("count(7)", x.count(7), 150);
    check.due("read() of a full one", x.read(), -160);
    check.due("clear() of a full one", x.clear(), 150);
    check.due("clear() again", x.clear(), 0);
    check.due("read() of an empty one", x.read(), -10);
    check.due("the 1st again", x.type(32), 1);
    check.status(x, "behind bytes", 0, 0, 2);
  }

  private static void pleadAndDeny() {
    for (int fictions = 1; fictions <= 6; fictions++) {
      DoeRoe x = plain(fictions);
      int last = fictions - 1;
      check.due("plead, one too far", x.plead(fictions), DoeRoe.BAD);
      check.due("plead, the last", x.plead(last), fictions);
      check.due("deny, the last", x.deny(last), 0);
      check.due("deny, one too far", x.deny(fictions), DoeRoe.BAD);
      if (last > 0) {
        check.due("plead, the first", x.plead(0), 1);
        check.due("deny, the first", x.deny(0), 0);
      }
      check.due("PLEADED", x.now(1), 1 << last | 1);
      check.status(x, "of " + fictions, 2, 0, 0);
    }
  }

  private static void of() {
    DoeRoe x = new DoeRoe();
    for (int f = 0; f < 6; f++) {
      x.fiction(f, f, 7 - f, 20 - f);
    }
    int[] first = {0, 0, 7, 20, 0, 1, 20, 0};
    int[] last = {5, 5, 2, 15, 0, 1, 17, 0};
    for (int what = 0; what <= 7; what++) {
      check.due("of(0, " + what + ")", x.of(0, what), first[what]);
      check.due("of(5, " + what + ")", x.of(5, what), last[what]);
    }
    check.due("of(6, 0)", x.of(6, 0), DoeRoe.BAD);
    check.status(x, "behind of", 1, 0, 0);
  }

  private static void now() {
    DoeRoe x = plain(6);
    x.book(255);
    int[] want = {255, 0, 0, 0, 255};
    for (int what = 0; what <= 4; what++) {
      check.due("now(" + what + ")", x.now(what), want[what]);
    }
    check.status(x, "behind now", 0, 0, 0);
  }

  /** COURT 0 .. the last, what 0 and 1, i from NONE on without an end. */
  private static void least() {
    DoeRoe x = plain(6);
    x.court(63, 0);
    for (int c = 1; c < 4; c++) {
      x.court(c, 10 * c - 10);
    }
    check.due("least(0, 0, -1)", x.least(0, 0, -1), 6);
    check.due("least(0, 1, -1)", x.least(0, 1, -1), 21);
    check.due("least(3, 0, -1)", x.least(3, 0, -1), 2);
    check.due("least(3, 1, -1)", x.least(3, 1, -1), 23);
    for (int what = 0; what < 2; what++) {
      for (int i = 0; i <= 5; i++) {
        check.due("least(0, " + what + ", " + i + ")", x.least(0, what, i), i);
      }
      for (int i : new int[] {6, 7, 31, 32, 64, 1 << 30, Integer.MAX_VALUE}) {
        check.due("least(0, " + what + ", " + i + ")", x.least(0, what, i), -5);
      }
      check.due("least(3, " + what + ", 1)", x.least(3, what, 1), 1);
      check.due("least(3, " + what + ", 2)", x.least(3, what, 2), -5);
    }
    check.status(x, "behind least", 0, 0, 0);
  }

  private static void denial() {
    DoeRoe x = plain(6);
    for (int f = 0; f < 6; f++) {
      check.due("denial(" + f + ") ahead", x.denial(f), DoeRoe.NO);
      x.plead(f);
      check.due("denial(" + f + ")", x.denial(f), 4);
    }
    check.status(x, "behind denial", 0, 6, 0);
  }

  private static void fees() {
    DoeRoe x = new DoeRoe();
    x.court(1, 0);
    x.court(1, 0);
    x.court(1, 0);
    x.court(0, 20);
    check.due("fees(0), the last", x.fees(0), 3);
    check.due("fees(1), the most", x.fees(1), 20);
    x.book(1);
    x.court(1, 0);
    check.due("fees(0), the first", x.fees(0), 0);
    check.due("fees(1), the least", x.fees(1), 0);
    check.status(x, "behind fees", 0, 0, 0);
  }

  private static void rule() {
    DoeRoe x = new DoeRoe();
    for (int c = 0; c < 4; c++) {
      check.due("rule(" + c + "), one too far", x.rule(c), DoeRoe.BAD);
      x.court(255 - c, 0);
      check.due("rule(" + c + ")", x.rule(c), 255 - c);
    }
    check.due("rule(4)", x.rule(4), DoeRoe.BAD);
    check.status(x, "behind rule", 5, 0, 0);
  }

  private static long digestOf(long... rows) {
    long h = 1283;
    for (long v : rows) {
      h = 31 * h + v;
    }
    return h;
  }

  /** NOTES 0 .. 5: a FICTION, d 0 .. 20, p 0 .. 60. */
  private static void note() {
    DoeRoe x = new DoeRoe();
    x.fiction(0, 0, 0, 0);
    x.fiction(0, 0, 0, 0);
    int[][] told = {{0, 0, 0}, {1, 0, 0}, {0, 20, 0}, {0, 0, 60}, {1, 20, 60}, {0, 19, 59}};
    for (int k = 0; k < 6; k++) {
      check.due("note " + k, x.note(told[k][0], told[k][1], told[k][2]), k + 1);
      check.due("count(4) behind it", x.count(4), k + 1);
    }
    check.due("the 7th", x.note(0, 0, 0), DoeRoe.FULL);
    check.due("digest() with six NOTES", x.digest(), digestOf(2, 0, 0, 0, 6, 0, 0, 0,
        0, 0, 0, 0, 0, 0, 0, 0, 0, 0, 0, 0, 0,
        0, 0, 0, 1, 0, 0, 0, 20, 0, 0, 0, 60, 1, 20, 60, 0, 19, 59, 0, 1));
    check.due("forget(0)", x.forget(0), 6);
    check.due("the 1st again", x.note(1, 20, 60), 1);
    check.status(x, "behind notes", 0, 0, 1);
  }

  /** HEARD 0 .. 5: a COURT, 1 or 0. */
  private static void heard() {
    DoeRoe x = new DoeRoe();
    for (int c = 0; c < 4; c++) {
      x.court(0, 0);
    }
    int[][] told = {{0, 0}, {0, 1}, {3, 0}, {3, 1}, {1, 1}, {2, 0}};
    for (int k = 0; k < 6; k++) {
      check.due("heard " + k, x.heard(told[k][0], told[k][1]), k + 1);
      check.due("count(5) behind it", x.count(5), k + 1);
    }
    check.due("the 7th", x.heard(0, 0), DoeRoe.FULL);
    check.due("digest() with six HEARD", x.digest(), digestOf(0, 4, 0, 0, 0, 6, 0, 0,
        0, 0, 0, 0, 0, 0, 0, 0, 0, 0, 0, 0, 0, 0, 0, 0, 1, 3, 0, 3, 1, 1, 1, 2, 0, 0, 1));
    check.due("forget(1)", x.forget(1), 6);
    check.due("the 1st again", x.heard(3, 1), 1);
    check.status(x, "behind heard", 0, 0, 1);
  }

  private static void forget() {
    DoeRoe x = Made.full();
    check.due("forget(0) of six", x.forget(0), 6);
    check.due("count(4)", x.count(4), 0);
    check.due("count(5)", x.count(5), 6);
    check.due("forget(0) of none", x.forget(0), 0);
    check.due("forget(1) of six", x.forget(1), 6);
    check.due("count(5) then", x.count(5), 0);
    check.due("forget(1) of none", x.forget(1), 0);
    check.status(x, "behind forget", 0, 0, 0);
  }

  private static void isAndLook() {
    DoeRoe x = plain(6);
    x.note(0, 0, 3);
    x.note(5, 0, 6);
    check.due("is(0)", x.is(0), 36);
    check.due("look(0)", x.look(0), 1);
    check.due("is(5)", x.is(5), 27);
    check.due("look(5)", x.look(5), 2);
    check.status(x, "behind is, look", 0, 0, 0);
  }

  private static void truth() {
    DoeRoe x = new DoeRoe();
    check.due("truth(0)", x.truth(0), 81);
    check.due("truth(1)", x.truth(1), 0);
    check.due("truth(2)", x.truth(2), 255);
    check.status(x, "behind truth", 0, 0, 0);
  }

  private static void odds() {
    DoeRoe x = new DoeRoe();
    x.fiction(SHIP, 7, 7, 0);
    for (int c = 0; c < 4; c++) {
      x.court(c % 2 == 0 ? 128 : 0, 0);
    }
    x.plead(0);
    long[][] at = {{0, 1, 1}, {1, 9, 10}, {9, 1, 10}, {10, 0, 1}};
    for (long[] a : at) {
      int c = (int) a[0];
      check.due("odds(0, " + c + ")", x.odds(0, c), 1);
      check.due("part(0)", x.part(0), a[1]);
      check.due("part(1)", x.part(1), a[2]);
      check.due("odds(3, " + c + ")", x.odds(3, c), 1);
      check.due("part(0) of the last court", x.part(0), 1);
      check.due("part(1) of the last court", x.part(1), 1);
    }
    check.status(x, "behind odds", 0, 0, 0);
  }

  /** A SEED 0 .. 999999, n 0 .. 60. */
  private static void terms() {
    DoeRoe x = plain(6);
    x.court(63, 0);
    x.court(0, 0);
    for (int seed : new int[] {0, 1, 999998, 999999}) {
      check.due("terms(" + seed + ", 0)", x.terms(seed, 0), 1);
      check.due("terms(" + seed + ", 1)", x.terms(seed, 1), 1);
      check.due("terms(" + seed + ", 60)", x.terms(seed, 60), 2);
    }
    check.status(x, "behind terms", 0, 0, 0);
  }

  private static void part() {
    DoeRoe x = new DoeRoe();
    check.due("part(0)", x.part(0), 0);
    check.due("part(1)", x.part(1), 1);
    check.status(x, "behind part", 0, 0, 0);
  }

  private static void images() {
    for (int i = 0; i < 2; i++) {
      DoeRoe x = new DoeRoe();
      check.due("from(" + i + "), none", x.from(i), DoeRoe.NO);
      check.due("image(" + i + ")", x.image(i), 1);
      check.due("from(" + i + ")", x.from(i), 1);
      check.due("from(" + (1 - i) + "), the other", x.from(1 - i), DoeRoe.NO);
      check.due("from(" + i + ") again", x.from(i), 1);
      check.status(x, "behind image, from", 0, 2, 0);
    }
  }

  private static void status() {
    DoeRoe x = new DoeRoe();
    x.book(256);
    x.undo();
    x.undo();
    check.due("status(0)", x.status(0), 1);
    check.due("status(1)", x.status(1), 2);
    check.due("status(2)", x.status(2), 0);
  }

  private static void count() {
    DoeRoe x = Made.full();
    int[] want = {6, 4, 4, 4, 6, 6, 8, 150};
    for (int what = 0; what <= 7; what++) {
      check.due("count(" + what + ")", x.count(what), want[what]);
    }
    check.status(x, "behind count", 0, 0, 0);
  }
}

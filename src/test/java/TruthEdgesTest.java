import java.math.BigInteger;

/** The edges of which was true (promises 23 to 30). */
public final class TruthEdgesTest {
  private static final Check check = new Check();
  private static final int PLAIN = 0, PERSONS = 1, TIME = 3, SHIP = 5;

  public static void main(String[] args) {
    notesOneToSeven();
    heardOneToSeven();
    forgetIsOfOne();
    isByEveryNote();
    isByNoNote();
    isBySixNotes();
    lookByEveryNote();
    lookNone();
    truthByOneCourt();
    truthOfOneSet();
    truthOfNoSet();
    truthAloneByHeard();
    oddsOfNonePleaded();
    oddsOfSix();
    oddsInLowestTerms();
    oddsOfThoseThatWin();
    termsByEverySeed();
    termsOfFewFictions();
    termsOfEveryKind();
    termsFromTheSuit();
    termsKeepPast();
    check.end("TruthEdgesTest");
  }

  private static int costs(int kind, int fee, int d) {
    int half = d >= 2 ? fee - fee / 2 : fee;
    int[] all = {fee, half, fee + 2, half, fee, fee + 2 + d};
    return all[kind];
  }

  private static int kindsThatCost(int fee, int d, int p) {
    int set = 0;
    for (int kind = 0; kind < 6; kind++) {
      set |= costs(kind, fee, d) == p ? 1 << kind : 0;
    }
    return set;
  }

  /** "NOTES 0 .. 5, as they come", "FULL: 6": a note that is there already is one more */
  private static void notesOneToSeven() {
    DoeRoe x = new DoeRoe();
    x.fiction(PLAIN, 0, 0, 3);
    for (int k = 1; k <= 6; k++) {
      check.due("note " + k, x.note(0, 2, 3), k);
    }
    for (int k = 7; k <= 9; k++) {
      check.due("note " + k, x.note(0, 2, 3), DoeRoe.FULL);
    }
    check.due("is(0) by six that are alike", x.is(0), 17);
    check.due("note, BAD ahead of FULL", x.note(1, 2, 3), DoeRoe.BAD);
    check.due("forget(0)", x.forget(0), 6);
    check.due("is(0) by none", x.is(0), 63);
    check.due("note, the first again", x.note(0, 0, 5), 1);
    check.due("is(0) by that one alone", x.is(0), 36);
    check.status(x, "behind notes", 1, 0, 3);
  }

  private static void heardOneToSeven() {
    DoeRoe x = new DoeRoe();
    x.court(1, 0);
    for (int k = 1; k <= 6; k++) {
      check.due("heard " + k, x.heard(0, 1), k);
    }
    for (int k = 7; k <= 9; k++) {
      check.due("heard " + k, x.heard(0, 0), DoeRoe.FULL);
    }
    check.due("truth(0) by six that are alike", x.truth(0), 27);
    check.due("heard, BAD ahead of FULL", x.heard(1, 1), DoeRoe.BAD);
    check.due("forget(1)", x.forget(1), 6);
    check.due("truth(0) by none", x.truth(0), 81);
    check.due("heard, the first again", x.heard(0, 0), 1);
    check.due("truth(0) by that one alone", x.truth(0), 54);
    check.status(x, "behind heard", 1, 0, 3);
  }

  private static void forgetIsOfOne() {
    DoeRoe x = Made.full();
    check.due("forget(1)", x.forget(1), 6);
    check.due("count(4) stays", x.count(4), 6);
    check.due("is(0) by NOTES that stay", x.is(0), 32);
    x = Made.full();
    check.due("forget(0)", x.forget(0), 6);
    check.due("count(5) stays", x.count(5), 6);
    check.due("truth(0) by HEARD that stay", x.truth(0), 72);
    check.due("PLEADED stays", x.now(1), 15);
    check.due("count(6) stays", x.count(6), 8);
    x = new DoeRoe();
    check.due("forget(0) of a new one", x.forget(0), 0);
    check.due("forget(1) of a new one", x.forget(1), 0);
  }

  /** Every FEE 0 .. 20, d 0 .. 20, p 0 .. 60 */
  private static void isByEveryNote() {
    for (int fee = 0; fee <= 20; fee++) {
      for (int d = 0; d <= 20; d++) {
        DoeRoe x = new DoeRoe();
        x.fiction(PLAIN, 0, 0, fee);
        for (int p = 0; p <= 60; p++) {
          x.note(0, d, p);
          check.due("is(0) by fee " + fee + ", d " + d + ", p " + p, x.is(0),
              kindsThatCost(fee, d, p));
          x.forget(0);
        }
      }
    }
  }

  /** "KINDS (bits) by which all NOTES of it are so": by none all KINDS, by those of others too */
  private static void isByNoNote() {
    DoeRoe x = new DoeRoe();
    for (int kind = 0; kind < 6; kind++) {
      x.fiction(kind, 0, 0, 7);
    }
    for (int f = 0; f < 6; f++) {
      check.due("is(" + f + ") by none", x.is(f), 63);
    }
    x.note(2, 0, 60);
    for (int f = 0; f < 6; f++) {
      check.due("is(" + f + ") by one of 2", x.is(f), f == 2 ? 0 : 63);
      check.due("look(" + f + ") by one of 2", x.look(f), f == 2 ? DoeRoe.NONE : 2);
    }
  }

  private static void isBySixNotes() {
    for (int kind = 0; kind < 6; kind++) {
      DoeRoe x = new DoeRoe();
      x.fiction((kind + 1) % 6, 0, 0, 9);
      int[] steps = {0, 1, 2, 3, 19, 20};
      int want = 63;
      for (int d : steps) {
        x.note(0, d, costs(kind, 9, d));
        want &= kindsThatCost(9, d, costs(kind, 9, d));
        check.due("is(0) as kind " + kind + " up to step " + d, x.is(0), want);
      }
      check.due("what is left", x.is(0), new int[] {17, 10, 4, 10, 17, 32}[kind]);
    }
  }

  private static int lookAt(int fee, int kinds) {
    int best = -1;
    int fewest = 7;
    for (int d = 0; d <= 9 && kinds != 0; d++) {
      int[] alike = new int[64];
      int most = 0;
      for (int kind = 0; kind < 6; kind++) {
        if ((kinds >> kind & 1) == 1) {
          most = Math.max(most, ++alike[costs(kind, fee, d)]);
        }
      }
      if (most < fewest) {
        fewest = most;
        best = d;
      }
    }
    return best;
  }

  /** "the most of these KINDS that cost alike are fewest; of like ones the first" */
  private static void lookByEveryNote() {
    for (int fee = 0; fee <= 20; fee++) {
      DoeRoe x = new DoeRoe();
      x.fiction(PLAIN, 0, 0, fee);
      check.due("look(0) by none, fee " + fee, x.look(0), lookAt(fee, 63));
      for (int d = 0; d <= 9; d++) {
        for (int p = 0; p <= fee + 2 + d; p++) {
          x = new DoeRoe();
          x.fiction(PLAIN, 0, 0, fee);
          x.note(0, d, p);
          check.due("look(0) by fee " + fee + ", d " + d + ", p " + p, x.look(0),
              lookAt(fee, kindsThatCost(fee, d, p)));
        }
      }
    }
  }

  /** "none: no KIND" */
  private static void lookNone() {
    DoeRoe x = new DoeRoe();
    x.fiction(PLAIN, 0, 0, 7);
    x.note(0, 0, 7);
    x.note(0, 2, 9);
    check.due("is(0), no KIND", x.is(0), 0);
    check.due("look(0), no KIND", x.look(0), DoeRoe.NONE);
    x.forget(0);
    x.note(0, 20, 29);
    check.due("is(0), one KIND", x.is(0), 32);
    check.due("look(0), one KIND: the first STEP", x.look(0), 0);
    check.status(x, "behind look", 0, 0, 0);
  }

  private static boolean hasPair(int facts) {
    return (facts & 3) == 3 || (facts & 12) == 12 || (facts & 48) == 48 || (facts & 192) == 192;
  }

  /** One COURT that HEARS it, or not, by all NEEDS 0 .. 255 */
  private static void truthByOneCourt() {
    for (int needs = 0; needs <= 255; needs++) {
      for (int is = 0; is < 2; is++) {
        DoeRoe x = new DoeRoe();
        x.court(needs, 0);
        x.heard(0, is);
        int many = 0;
        int all = 255;
        int some = 0;
        for (int facts = 0; facts <= 255; facts++) {
          if (!hasPair(facts) && ((needs & facts) == needs) == (is == 1)) {
            many++;
            all &= facts;
            some |= facts;
          }
        }
        String told = " by NEEDS " + needs + ", is " + is;
        check.due("truth(0)" + told, x.truth(0), many);
        check.due("truth(1)" + told, x.truth(1), many == 0 ? DoeRoe.NONE : all);
        check.due("truth(2)" + told, x.truth(2), some);
      }
    }
  }

  private static void truthOfOneSet() {
    DoeRoe x = new DoeRoe();
    x.court(170, 0);
    x.heard(0, 1);
    check.due("truth(0), one set", x.truth(0), 1);
    check.due("truth(1), one set", x.truth(1), 170);
    check.due("truth(2), one set", x.truth(2), 170);
    // The empty set is one, too: nothing is in all of them, and that is 0, not NONE.
    x.book(0);
    for (int c = 0; c < 4; c++) {
      x.court(1 << 2 * c, 0);
      x.heard(c, 0);
    }
    check.due("truth(0), odd FACTS only", x.truth(0), 16);
    check.due("truth(1), odd FACTS only", x.truth(1), 0);
    check.due("truth(2), odd FACTS only", x.truth(2), 170);
  }

  /** "NONE: no set" */
  private static void truthOfNoSet() {
    int[][] told = {{255, 1}, {3, 1}, {192, 1}, {0, 0}};
    for (int[] t : told) {
      DoeRoe x = new DoeRoe();
      x.court(t[0], 0);
      x.heard(0, t[1]);
      check.due("truth(0), no set", x.truth(0), 0);
      check.due("truth(1), no set", x.truth(1), DoeRoe.NONE);
      check.due("truth(2), no set", x.truth(2), 0);
      check.status(x, "behind truth", 0, 0, 0);
    }
    DoeRoe x = new DoeRoe();
    x.court(16, 0);
    x.heard(0, 1);
    x.heard(0, 0);
    check.due("truth(0), heard and not", x.truth(0), 0);
    check.due("truth(1), heard and not", x.truth(1), DoeRoe.NONE);
  }

  /** "no FICTION PLEADED", "by all HEARD": not by what is TRUE or SUPPOSED now */
  private static void truthAloneByHeard() {
    DoeRoe x = new DoeRoe();
    x.book(3);
    x.court(4, 0);
    x.fiction(PLAIN, 0, 2, 0);
    x.plead(0);
    check.due("truth(0) by none", x.truth(0), 81);
    x.heard(0, 0);
    check.due("truth(0) by one", x.truth(0), 54);
    check.due("truth(1) by one", x.truth(1), 0);
    check.due("truth(2) by one", x.truth(2), 251);
    x.suit();
    check.due("truth(0) in a SUIT anew", x.truth(0), 54);
  }

  private static void oddsAre(DoeRoe x, int court, int c, long above, long below) {
    check.due("odds(" + court + ", " + c + ")", x.odds(court, c), 1);
    check.due("above, by " + c, x.part(0), above);
    check.due("below, by " + c, x.part(1), below);
  }

  private static void oddsOfNonePleaded() {
    DoeRoe x = new DoeRoe();
    x.court(0, 0);
    x.court(255, 0);
    for (int c = 0; c <= 10; c++) {
      oddsAre(x, 0, c, 1, 1);
      oddsAre(x, 1, c, 0, 1);
    }
  }

  /** A suit in which all six are PLEADED and a denial of each WINS; they give FACTS 0 .. 5. */
  private static DoeRoe allWin() {
    DoeRoe x = new DoeRoe();
    x.fiction(SHIP, 224, 0, 0);
    x.fiction(TIME, 1, 1, 0);
    for (int f = 2; f < 6; f++) {
      x.fiction(PERSONS, 3, f, 0);
    }
    for (int f = 0; f < 6; f++) {
      check.isTrue("plead(" + f + ")", x.plead(f) >= 0);
      check.due("of(" + f + ", 7)", x.of(f, 7), 1);
    }
    return x;
  }

  /** All six denied apart: below is 1000000 at most */
  private static void oddsOfSix() {
    DoeRoe x = allWin();
    x.court(63, 0);
    x.court(0, 0);
    x.court(1, 0);
    for (int c = 0; c <= 10; c++) {
      BigInteger over = BigInteger.valueOf(10 - c).pow(6);
      BigInteger divisor = over.gcd(BigInteger.TEN.pow(6));
      oddsAre(x, 0, c, over.divide(divisor).longValue(),
          BigInteger.TEN.pow(6).divide(divisor).longValue());
      oddsAre(x, 1, c, 1, 1);
    }
    oddsAre(x, 0, 1, 531441, 1000000);
    oddsAre(x, 0, 9, 1, 1000000);
    oddsAre(x, 0, 5, 1, 64);
    oddsAre(x, 2, 3, 7, 10);
    check.due("nothing is denied by it", x.now(1), 63);
    check.due("count(6)", x.count(6), 0);
  }

  /** "lowest terms, below above 0" */
  private static void oddsInLowestTerms() {
    DoeRoe x = new DoeRoe();
    x.fiction(SHIP, 7, 7, 0);
    x.court(128, 0);
    x.plead(0);
    long[][] want = {{1, 1}, {9, 10}, {4, 5}, {7, 10}, {3, 5}, {1, 2}, {2, 5}, {3, 10}, {1, 5},
        {1, 10}, {0, 1}};
    for (int c = 0; c <= 10; c++) {
      oddsAre(x, 0, c, want[c][0], want[c][1]);
    }
    check.due("odds(0, 11)", x.odds(0, 11), DoeRoe.BAD);
    check.due("above stays", x.part(0), 0);
    check.due("below stays", x.part(1), 1);
    oddsAre(x, 0, 7, 3, 10);
    check.due("odds(0, -1)", x.odds(0, -1), DoeRoe.BAD);
    check.due("odds(1, 5)", x.odds(1, 5), DoeRoe.BAD);
    check.due("above stays", x.part(0), 3);
    check.due("below stays", x.part(1), 10);
  }

  /** "each PLEADED FICTION of which a denial WINS": not others, not those not PLEADED */
  private static void oddsOfThoseThatWin() {
    DoeRoe x = new DoeRoe();
    x.fiction(SHIP, 3, 0, 0);
    x.fiction(PLAIN, 0, 1, 0);
    x.fiction(PERSONS, 3, 2, 0);
    x.court(1, 0);
    x.court(2, 0);
    x.court(4, 0);
    x.plead(0);
    x.plead(1);
    for (int c = 0; c <= 10; c++) {
      oddsAre(x, 0, c, 1, 1);
      oddsAre(x, 1, c, 1, 1);
      oddsAre(x, 2, c, 0, 1);
    }
    x.plead(2);
    oddsAre(x, 2, 2, 4, 5);
    oddsAre(x, 0, 10, 1, 1);
    oddsAre(x, 2, 10, 0, 1);
    x.deny(2);
    oddsAre(x, 2, 0, 0, 1);
  }

  /** The FICTIONS that a SEED draws, by numbers of any length. */
  private static int[] drawn(int seed, int n) {
    int[] f = new int[n];
    BigInteger x = BigInteger.valueOf(seed);
    for (int i = 0; i < n; i++) {
      x = x.multiply(BigInteger.valueOf(1103515245L)).add(BigInteger.valueOf(12345));
      x = x.mod(BigInteger.valueOf(2147483648L));
      f[i] = x.divide(BigInteger.valueOf(65536)).mod(BigInteger.valueOf(6)).intValue();
    }
    return f;
  }

  /** n 0 .. 60 by SEEDS at both ends; so many FICTIONS are there, the last one's fact is asked for. */
  private static void terms(int fictions, int seed) {
    DoeRoe x = new DoeRoe();
    for (int f = 0; f < fictions; f++) {
      x.fiction(PLAIN, 0, f, 0);
    }
    x.court(1, 0);
    x.court(6, 0);
    x.court(1 << fictions >> 1, 0);
    x.court(63, 0);
    int[] f = drawn(seed, 60);
    int facts = 0;
    for (int n = 0; n <= 60; n++) {
      facts |= n > 0 && f[n - 1] < fictions ? 1 << f[n - 1] : 0;
      int want = facts & 1;
      want += (facts & 6) == 6 ? 1 : 0;
      want += fictions == 0 || (facts >> fictions - 1 & 1) == 1 ? 1 : 0;
      want += facts == 63 ? 1 : 0;
      check.due(fictions + " fictions: terms(" + seed + ", " + n + ")", x.terms(seed, n), want);
    }
  }

  private static void termsByEverySeed() {
    for (int seed = 0; seed <= 40; seed++) {
      terms(6, seed);
      terms(6, 999999 - seed);
    }
    for (int seed = 65535; seed <= 999999; seed += 31415) {
      terms(6, seed);
    }
  }

  /** One that is drawn and that there is not changes nothing. */
  private static void termsOfFewFictions() {
    for (int fictions = 0; fictions < 6; fictions++) {
      for (int seed : new int[] {0, 1, 2, 3, 4, 5, 499999, 999998, 999999}) {
        terms(fictions, seed);
      }
    }
  }

  /** A STEP is one that is PLEADED: not a denial, nor one that may not be, nor one that is not. */
  private static void termsOfEveryKind() {
    for (int way = 0; way < 60; way++) {
      DoeRoe x = new DoeRoe();
      PlainModel y = new PlainModel();
      for (int f = 0; f < 1 + way % 6; f++) {
        int kind = way < 12 ? TIME : (way + 5 * f) % 6;
        int needs = way < 12 ? 0 : 1 << (way + f) % 8 & 85 | (f == 2 ? 7 : 0);
        x.fiction(kind, needs, (way / 6 + f) % 8, 1);
        y.fiction(kind, needs, (way / 6 + f) % 8, 1);
      }
      if (way % 2 == 1) {
        x.fiction(PLAIN, 0, 7, 0);
        y.fiction(PLAIN, 0, 7, 0);
      }
      for (int c = 0; c < 4; c++) {
        x.court(1 << (way / 6 + c) % 8, 0);
        y.court(1 << (way / 6 + c) % 8, 0);
      }
      for (int n = 0; n <= 60; n++) {
        for (int seed : new int[] {0, 1, 500000 + way, 999999 - n, 999999}) {
          check.due("way " + way + ": terms(" + seed + ", " + n + ")", x.terms(seed, n),
              y.terms(seed, n));
        }
      }
    }
  }

  /** "the SUIT as it is": its STEPS, what is PLEADED; one that is PLEADED is denied */
  private static void termsFromTheSuit() {
    for (int seed = 0; seed < 30; seed++) {
      DoeRoe x = allWin();
      x.court(63, 0);
      x.court(62, 0);
      x.court(61, 0);
      x.court(0, 0);
      check.due("terms(" + seed + ", 0), all PLEADED", x.terms(seed, 0), 4);
      int f = drawn(seed, 1)[0];
      int[] want = {2, 2, 1, 1, 1, 1};
      check.due("terms(" + seed + ", 1), one denied", x.terms(seed, 1), want[f]);
      check.due("the SUIT goes on as it is", x.now(1), 63);
    }
  }

  /** Nothing is kept of TERMS: not what may be undone, not STEPS, not PAID. */
  private static void termsKeepPast() {
    DoeRoe x = Made.full();
    long before = x.digest();
    for (int n = 0; n <= 60; n++) {
      x.terms(n * 16666, n);
    }
    check.due("digest() behind terms", x.digest(), before);
    check.due("count(6) behind terms", x.count(6), 8);
    check.due("undo() behind terms", x.undo(), 6);
    check.status(x, "behind terms", 0, 0, 0);
  }
}

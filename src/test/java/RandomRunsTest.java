import java.util.Random;

/** All promises: runs of 500 calls by a seed, each answer held against the plain model's. */
public final class RandomRunsTest {
  private static final Check check = new Check();
  private static final int RUNS = 600;
  private static final int CALLS = 500;
  private static final String[] WORDS = {"book", "fiction", "court", ";", ";", " ", "0", "1", "2",
      "5", "7", "8", "12", "20", "21", "000", "x", "books", "-", "\t"};

  private final Random random;
  private final DoeRoe x = new DoeRoe();
  private final PlainModel y = new PlainModel();
  private final int run;
  private int calls = 0;

  private RandomRunsTest(int run) {
    this.run = run;
    this.random = new Random(run);
  }

  public static void main(String[] args) {
    for (int run = 0; run < RUNS; run++) {
      new RandomRunsTest(run).play();
    }
    check.end("RandomRunsTest");
  }

  private void due(String call, long got, long want) {
    calls++;
    check.due("run " + run + ", call " + calls + ": " + call, got, want);
  }

  private void play() {
    begin();
    while (calls < CALLS - 20) {
      step(random.nextInt(100));
      if (random.nextInt(3) == 0) {
        due("digest()", x.digest(), y.digest());
      }
    }
    for (int what = 0; what < 3; what++) {
      due("status(" + what + ")", x.status(what), y.status(what));
    }
    due("digest()", x.digest(), y.digest());
  }

  /** Most runs begin with a book that has much in it. */
  private void begin() {
    if (random.nextInt(8) == 0) {
      return;
    }
    book();
    for (int f = random.nextInt(7); f > 0; f--) {
      fiction();
    }
    for (int c = random.nextInt(5); c > 0; c--) {
      court();
    }
  }

  /** A number up to a bound, at times one that is not as told. */
  private int upTo(int most) {
    switch (random.nextInt(40)) {
      case 0:
        return -1;
      case 1:
        return most + 1;
      case 2:
        return random.nextInt(4) == 0 ? random.nextInt() : most;
      case 3:
        return random.nextInt(8) == 0 ? Integer.MIN_VALUE : 0;
      default:
        return random.nextInt(most + 1);
    }
  }

  /** Few FACTS more often than many. */
  private int someFacts() {
    int facts = upTo(255);
    return facts >= 0 && facts <= 255 && random.nextInt(4) != 0 ? facts & upTo(255) & 255 : facts;
  }

  private void book() {
    int facts = someFacts();
    due("book(" + facts + ")", x.book(facts), y.book(facts));
  }

  private void fiction() {
    int k = upTo(5);
    int n = someFacts();
    int g = upTo(7);
    int fee = random.nextInt(3) == 0 ? upTo(3) : upTo(20);
    due("fiction(" + k + ", " + n + ", " + g + ", " + fee + ")", x.fiction(k, n, g, fee),
        y.fiction(k, n, g, fee));
  }

  private void court() {
    int n = someFacts();
    int fee = upTo(20);
    due("court(" + n + ", " + fee + ")", x.court(n, fee), y.court(n, fee));
  }

  private void type(int c) {
    due("type(" + c + ")", x.type(c), y.type(c));
  }

  private void text() {
    due("clear()", x.clear(), y.clear());
    StringBuilder told = new StringBuilder(random.nextInt(5) == 0 ? "" : "book");
    for (int n = random.nextInt(14); n > 0; n--) {
      if (random.nextInt(3) == 0) {
        told.append(";").append(WORDS[random.nextInt(3)]);
        for (int i = random.nextInt(6); i > 0; i--) {
          told.append(" ").append(random.nextInt(9));
        }
      } else {
        told.append(random.nextBoolean() ? " " : "").append(WORDS[random.nextInt(WORDS.length)]);
      }
    }
    if (random.nextInt(3) != 0) {
      told.append(";");
    }
    for (int i = 0; i < told.length() && i < 60; i++) {
      type(told.charAt(i));
    }
    due("read() of '" + told + "'", x.read(), y.read());
  }

  private void step(int kind) {
    int f = upTo(5);
    int c = upTo(3);
    if (kind < 25) {
      due("plead(" + f + ")", x.plead(f), y.plead(f));
    } else if (kind < 33) {
      due("deny(" + f + ")", x.deny(f), y.deny(f));
    } else if (kind < 38) {
      due("undo()", x.undo(), y.undo());
    } else if (kind < 44) {
      change(kind);
    } else if (kind < 70) {
      ask(kind, f, c);
    } else {
      recall(kind, f, c);
    }
  }

  private void change(int kind) {
    if (kind == 38 && random.nextInt(4) == 0) {
      book();
    } else if (kind == 39) {
      fiction();
    } else if (kind == 40) {
      court();
    } else if (kind == 41 && random.nextInt(6) == 0) {
      text();
    } else if (kind == 42) {
      due("suit()", x.suit(), y.suit());
    } else if (kind == 43) {
      type(upTo(127));
    }
  }

  private void ask(int kind, int f, int c) {
    int what = upTo(7);
    int one = upTo(1);
    if (kind < 48) {
      due("of(" + f + ", " + what + ")", x.of(f, what), y.of(f, what));
    } else if (kind < 50) {
      int which = upTo(4);
      due("now(" + which + ")", x.now(which), y.now(which));
    } else if (kind < 52) {
      due("may()", x.may(), y.may());
    } else if (kind < 54) {
      due("hear()", x.hear(), y.hear());
    } else if (kind < 60) {
      int i = random.nextInt(10) == 0 ? upTo(9) - 1 : random.nextInt(7) - 1;
      due("least(" + c + ", " + one + ", " + i + ")", x.least(c, one, i), y.least(c, one, i));
    } else if (kind < 61) {
      due("ever()", x.ever(), y.ever());
    } else if (kind < 63) {
      due("contradict()", x.contradict(), y.contradict());
    } else if (kind < 65) {
      due("giveUp()", x.giveUp(), y.giveUp());
    } else if (kind < 67) {
      due("denial(" + f + ")", x.denial(f), y.denial(f));
    } else if (kind < 68) {
      due("fees(" + one + ")", x.fees(one), y.fees(one));
    } else {
      due("rule(" + c + ")", x.rule(c), y.rule(c));
    }
  }

  /** What a fiction would cost by some kind, so that notes often fit. */
  private int likely(int f, int d) {
    int fee = Math.max(0, y.of(Math.max(0, Math.min(f, y.count(0) - 1)), 3));
    x.of(Math.max(0, Math.min(f, x.count(0) - 1)), 3);
    int[] all = {fee, d < 2 ? fee : (fee + 1) / 2, fee + 2, fee + 2 + d};
    return all[random.nextInt(4)];
  }

  private void recall(int kind, int f, int c) {
    int one = upTo(1);
    if (kind < 75) {
      int d = upTo(random.nextBoolean() ? 3 : 20);
      int p = random.nextInt(4) == 0 ? upTo(60) : likely(f, d);
      due("note(" + f + ", " + d + ", " + p + ")", x.note(f, d, p), y.note(f, d, p));
    } else if (kind < 79) {
      due("heard(" + c + ", " + one + ")", x.heard(c, one), y.heard(c, one));
    } else if (kind < 80) {
      due("forget(" + one + ")", x.forget(one), y.forget(one));
    } else if (kind < 83) {
      due("is(" + f + ")", x.is(f), y.is(f));
    } else if (kind < 86) {
      due("look(" + f + ")", x.look(f), y.look(f));
    } else if (kind < 88) {
      int what = upTo(2);
      due("truth(" + what + ")", x.truth(what), y.truth(what));
    } else if (kind < 91) {
      int ten = upTo(10);
      due("odds(" + c + ", " + ten + ")", x.odds(c, ten), y.odds(c, ten));
    } else if (kind < 94) {
      int seed = upTo(999999);
      int n = upTo(60);
      due("terms(" + seed + ", " + n + ")", x.terms(seed, n), y.terms(seed, n));
    } else if (kind < 95) {
      due("part(" + one + ")", x.part(one), y.part(one));
    } else if (kind < 97) {
      due("image(" + one + ")", x.image(one), y.image(one));
    } else if (kind < 98) {
      due("from(" + one + ")", x.from(one), y.from(one));
    } else {
      int what = upTo(7);
      due("status(" + what + ")", x.status(what), y.status(what));
      due("count(" + what + ")", x.count(what), y.count(what));
    }
  }
}

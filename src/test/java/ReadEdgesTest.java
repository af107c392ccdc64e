import java.util.List;

/**
 * The edges of read (promise 7): what a TOKEN is, each clause of what the FAULT is, that all stays
 * by a FAULT, and what a BOOK that is read takes the place of.
 */
public final class ReadEdgesTest {
  private static final Check check = new Check();

  public static void main(String[] args) {
    endsTooEarly();
    aWordThatIsNone();
    bookOnceAndFirst();
    seventhFictionFifthCourt();
    runsOfFigures();
    numbersAsTold();
    bytesThatBeginNone();
    blanksBetween();
    itemsAreEnded();
    anyFacts();
    firstFaultOfTwo();
    fullText();
    everyOtherByte();
    everyMissingByte();
    allStays();
    takesThePlace();
    textStays();
    check.end("ReadEdgesTest");
  }

  private static DoeRoe typed(String text) {
    DoeRoe x = new DoeRoe();
    Check.type(x, text);
    return x;
  }

  private static void reads(String text, int items) {
    check.due("read() of '" + text + "'", typed(text).read(), items);
  }

  /** The FAULT is at a place; read answers -10 less it. */
  private static void fault(String text, int place) {
    DoeRoe x = typed(text);
    check.due("read() of '" + text + "'", x.read(), -10 - place);
    check.status(x, "behind a FAULT", 0, 0, 0);
  }

  /** "the TEXT's length, if it ends too early (an empty one, too)" */
  private static void endsTooEarly() {
    fault("", 0);
    fault(" ", 1);
    String whole = "book 0 7;fiction 5 7 20 0 7;court 20 0 7;";
    for (int length = 0; length <= whole.length(); length++) {
      String begun = whole.substring(0, length);
      // A word or a number that was cut is another TOKEN, and may not stand where it does.
      int cut = begun.matches(".*[a-z]") && !begun.matches(".*(book|fiction|court)")
          ? Math.max(0, begun.lastIndexOf(';') + 1) : length;
      boolean ended = begun.endsWith(";");
      int items = begun.replaceAll("[^;]", "").length();
      check.due("read() of '" + begun + "'", typed(begun).read(), ended ? items : -10 - cut);
      if (!ended && cut == length) {
        fault(begun + "   ", length + 3);
      }
    }
    reads(whole + "  ", 3);
  }

  /** "a word that is none" */
  private static void aWordThatIsNone() {
    for (String word : new String[] {"a", "z", "boo", "books", "bbook", "fictio", "fictions",
        "cour", "courts", "courtcourt", "bookfiction", "kooB", "koob"}) {
      fault(word + ";", 0);
      fault("book;" + word + " 0 0 0;", 5);
      fault("book 0 " + word + ";", 7);
      fault("book;court 0 " + word, 13);
    }
    // Each letter at each place counts.
    String[] words = {"book", "fiction", "court"};
    for (String word : words) {
      for (int i = 0; i < word.length(); i++) {
        String other = word.substring(0, i) + (char) (word.charAt(i) == 'x' ? 'y' : 'x')
            + word.substring(i + 1);
        fault("book; " + other, 6);
        fault("  " + other, 2);
      }
    }
  }

  /** "book and TRUE FACTS (any; once, first of all)", "book again, anything ahead of it" */
  private static void bookOnceAndFirst() {
    reads("book;", 1);
    fault("book;book;", 5);
    fault("book;book", 5);
    fault("book;fiction 0 0 0;book;", 19);
    fault("book;court 0; book", 14);
    fault("book book;", 5);
    fault("fiction 0 0 0;book;", 0);
    fault(" court 0;book;", 1);
    fault(";book;", 0);
    fault("0 book;", 0);
    fault("000 book;", 0);
    fault("- book;", 0);
    fault("x book;", 0);
    fault("\tbook;", 0);
  }

  private static String times(String part, int n) {
    StringBuilder s = new StringBuilder();
    for (int k = 0; k < n; k++) {
      s.append(part);
    }
    return s.toString();
  }

  /** "a 7th fiction, a 5th court at its word" */
  private static void seventhFictionFifthCourt() {
    String six = "book;" + times("fiction 0 0 0;", 6);
    reads(six, 7);
    fault(six + "fiction 0 0 0;", six.length());
    fault(six + "  fiction", six.length() + 2);
    reads(six + "court 0;", 8);
    String four = "book;" + times("court 0;", 4);
    reads(four, 5);
    fault(four + "court 0;", four.length());
    fault(four + " court", four.length() + 1);
    reads(four + "fiction 0 0 0;", 6);
    reads(four + times("fiction 0 0 0;", 6), 11);
    fault(four + times("fiction 0 0 0;", 6) + "court", four.length() + 84);
    fault(four + times("fiction 0 0 0;", 6) + "fiction", four.length() + 84);
    // What the object had is not counted: the BOOK takes its place.
    DoeRoe x = Made.full();
    Check.type(x, six + "court 0;");
    check.due("read() into a full one", x.read(), 8);
    check.due("count(0)", x.count(0), 6);
    check.due("count(1)", x.count(1), 1);
    check.due("read() of as many again", x.read(), 8);
  }

  /** "figures (1 or 2 are one number)", "a run of three figures or more (at its first one)" */
  private static void runsOfFigures() {
    reads("book 7;", 1);
    reads("book 07;", 1);
    fault("book 007;", 5);
    fault("book 0 000;", 7);
    fault("book 0000", 5);
    fault("book 00000000000000000000000000000000000000000000000000;", 5);
    fault("book;court 020;", 11);
    fault("book;court 000", 11);
    reads("book;court 20;", 2);
    reads("book;court 02;", 2);
    fault("book;fiction 000 0 0;", 13);
    fault("book;fiction 0 000 0;", 15);
    fault("book;fiction 0 0 000;", 17);
    fault("book;fiction 0 0 0 000;", 19);
    fault("book;000", 5);
    // A run is as long as figures go on: 4294967296 is not 0, and 10 is not 1, then 0.
    fault("book 4294967296;", 5);
    fault("book 10;", 5);
    reads("book 1 0;", 1);
  }

  /** "a number not as told": FACTS to 7, KINDS to 5, a FEE to 20 */
  private static void numbersAsTold() {
    for (int n = 0; n <= 99; n++) {
      number("book %;", n, 7, 5, 1);
      number("book 0 %;", n, 7, 7, 1);
      number("book;fiction % 0 0;", n, 5, 13, 2);
      number("book;fiction 0 % 0;", n, 7, 15, 2);
      number("book;fiction 0 0 %;", n, 20, 17, 2);
      number("book;fiction 0 0 0 %;", n, 7, 19, 2);
      number("book;fiction 0 0 0 0 %;", n, 7, 21, 2);
      number("book;court %;", n, 20, 11, 2);
      number("book;court 0 %;", n, 7, 13, 2);
    }
    DoeRoe x = typed("book 7;fiction 5 7 20 7;court 20 7;");
    check.due("read() of the most", x.read(), 3);
    check.due("TRUE", x.now(4), 128);
    int[] most = {5, 128, 7, 20};
    for (int what = 0; what < 4; what++) {
      check.due("of(0, " + what + ")", x.of(0, what), most[what]);
    }
    check.due("FEE of the court", x.least(0, 1, -1), 20);
    check.due("HEARD now", x.hear(), 1);
  }

  private static void number(String form, int n, int most, int place, int items) {
    String text = form.replace("%", "" + n);
    check.due("read() of '" + text + "'", typed(text).read(), n <= most ? items : -10 - place);
  }

  /** "a byte that begins none": all but a .. z, 0 .. 9, ; and the blank */
  private static void bytesThatBeginNone() {
    for (int c = 0; c <= 127; c++) {
      boolean letter = c >= 'a' && c <= 'z';
      boolean figure = c >= '0' && c <= '9';
      if (!letter && !figure && c != ';' && c != ' ') {
        fault("" + (char) c, 0);
        fault((char) c + "book;", 0);
        fault("book" + (char) c + ";", 4);
        fault("book " + (char) c, 5);
        fault("book 1" + (char) c + ";", 6);
        fault("book;" + (char) c, 5);
        fault("book;court" + (char) c, 10);
      }
    }
  }

  /** "blanks (32) between": any number of them, none too, at the begin and the end too */
  private static void blanksBetween() {
    reads("book;", 1);
    reads(" book ; ", 1);
    reads(times(" ", 145) + "book;", 1);
    reads("book" + times(" ", 145) + ";", 1);
    reads("book;" + times(" ", 145), 1);
    reads("book  0  7  ;  fiction  0  0  0  ;  court  0  ;  ", 3);
    reads("book 0;fiction 0 0 0;court 0;", 3);
    reads("book0;fiction0 0 0;court0;", 3);
    fault("bo ok;", 0);
    fault("book;fic tion 0 0 0;", 5);
    fault("book; ;", 6);
  }

  /** "ITEMS, each ended by ;" */
  private static void itemsAreEnded() {
    fault("book fiction 0 0 0;", 5);
    fault("book 1 court 0;", 7);
    fault("book;fiction 0 0 0 court 0;", 19);
    fault("book;court 0 fiction 0 0 0;", 13);
    fault("book;;", 5);
    fault("book;court 0;;", 13);
    fault("book;7;", 5);
    fault("book;fiction;", 12);
    fault("book;fiction 0;", 14);
    fault("book;fiction 0 0;", 16);
    reads("book;fiction 0 0 0;", 2);
    fault("book;court;", 10);
    reads("book;court 0;", 2);
  }

  /** "(any)": none, one, all eight */
  private static void anyFacts() {
    String all = " 0 1 2 3 4 5 6 7";
    DoeRoe x = typed("book" + all + ";fiction 1 2 3" + all + ";fiction 1 2 3;court 4" + all
        + ";court 4;");
    check.due("read() of all and none", x.read(), 5);
    check.due("TRUE", x.now(4), 255);
    check.due("NEEDS of all", x.of(0, 1), 255);
    check.due("NEEDS of none", x.of(1, 1), 0);
    check.due("HEARD, all TRUE", x.hear(), 3);
    x = typed("book;court 4" + all + ";court 4;");
    x.read();
    check.due("TRUE, none", x.now(4), 0);
    check.due("rule of all", x.rule(0), 255);
    check.due("rule of none", x.rule(1), 0);
    for (int fact = 0; fact < 8; fact++) {
      x = typed("book " + fact + ";fiction 0 " + fact + " 1 " + fact + ";court 0 " + fact + ";");
      check.due("read() of FACT " + fact, x.read(), 3);
      check.due("TRUE", x.now(4), 1 << fact);
      check.due("NEEDS", x.of(0, 1), 1 << fact);
      check.due("GIVES", x.of(0, 2), fact);
      check.due("HEARD", x.hear(), 1);
    }
  }

  /** "the first TOKEN that can not stand there" */
  private static void firstFaultOfTwo() {
    fault("book 8 9;", 5);
    fault("book 1 x 000 -", 7);
    fault("book 1 - x", 7);
    fault("book;fiction 6 8 21", 13);
    fault("book;fiction 5 8 21", 15);
    fault("book;fiction 5 7 21 8", 17);
    fault("book;fiction 5 7 20 8", 20);
    fault("x" + (char) 0, 0);
  }

  /** "150 bytes at most" */
  private static void fullText() {
    reads(Made.wide("book 7;"), 1);
    fault(Made.wide("book 7"), 150);
    reads("book" + times(" 7", 72) + "; ", 1);
    fault("book" + times(" 7", 73), 150);
    fault(times(" ", 150), 150);
    fault(times(" ", 149) + "x", 149);
    fault(times(" ", 146) + "book", 150);
    fault(times(" ", 147) + "boo", 147);
    fault("book;" + times("z", 145), 5);
    fault("book " + times("0", 145), 5);
    fault("book;" + times(";", 145), 5);
    fault(times("z", 150), 0);
    // What is typed beyond that is refused, and is not read.
    DoeRoe x = typed(times(" ", 145) + "book;x");
    check.due("read(), the rest was refused", x.read(), 1);
    check.status(x, "behind a byte too many", 0, 0, 1);
    x = typed(times(" ", 146) + "book;");
    check.due("read(), the ; was refused", x.read(), -160);
  }

  private static void sameAsModel(String text) {
    DoeRoe x = new DoeRoe();
    PlainModel y = new PlainModel();
    for (int i = 0; i < text.length(); i++) {
      x.type(text.charAt(i));
      y.type(text.charAt(i));
    }
    check.due("read() of '" + text + "'", x.read(), y.read());
    check.due("digest() behind '" + text + "'", x.digest(), y.digest());
  }

  private static final String WHOLE = "book 0 1 2 7; fiction 5 6 20 3;court 9 1;  fiction0 0 00;";

  /** Every byte of a text in the place of each one, against the plain model. */
  private static void everyOtherByte() {
    String text = WHOLE;
    reads(text, 4);
    for (int place = 0; place < text.length(); place++) {
      for (int c = 0; c <= 127; c++) {
        sameAsModel(text.substring(0, place) + (char) c + text.substring(place + 1));
      }
    }
  }

  /** Each byte left out, or told twice, against the plain model. */
  private static void everyMissingByte() {
    String text = WHOLE;
    for (int from = 0; from < text.length(); from++) {
      for (int to = from; to <= text.length(); to++) {
        sameAsModel(text.substring(0, from) + text.substring(to));
      }
      sameAsModel(text.substring(0, from) + text.charAt(from) + text.substring(from));
    }
  }

  /** "-10 less the FAULT: all stays." */
  private static void allStays() {
    String[] faulty = {"", " ", "book 7", "book 7;fiction 0 0 0;court 0;x", "book 1;book 2;",
        "book 255;", "court 0;", "book;fiction 5 7 20"};
    for (String text : faulty) {
      DoeRoe x = Made.busy();
      DoeRoe y = Made.busy();
      Check.type(x, text);
      Check.type(y, text);
      check.isTrue("a FAULT of '" + text + "'", x.read() <= -10);
      check.isTrue("a FAULT again", x.read() <= -10);
      check.status(x, "behind two FAULTS", 1, 1, 0);
      List<String> seen = Sight.of(x);
      check.isTrue("all stays behind '" + text + "': " + seen, seen.equals(Sight.of(y)));
    }
  }

  /** "takes the place of all but IMAGES, THE TEXT, THE FRACTION, STATUS" */
  private static void takesThePlace() {
    for (DoeRoe x : new DoeRoe[] {Made.busy(), Made.full()}) {
      boolean busy = x.count(0) == 3;
      int had = x.count(7);
      check.due("read()", x.read(), busy ? 3 : 2);
      int[] want = {busy ? 1 : 0, 1, 1, 0, 0, 0, 0, had};
      for (int what = 0; what < 8; what++) {
        check.due("count(" + what + ") behind read", x.count(what), want[what]);
      }
      int facts = busy ? 8 : 4;
      int[] suit = {facts, 0, 0, 0, facts};
      for (int what = 0; what < 5; what++) {
        check.due("now(" + what + ") behind read", x.now(what), suit[what]);
      }
      check.due("undo() behind read", x.undo(), DoeRoe.NO);
      check.due("THE FRACTION, above", x.part(0), busy ? 3 : 49);
      check.due("THE FRACTION, below", x.part(1), busy ? 5 : 100);
      check.status(x, "behind read", busy ? 1 : 0, busy ? 2 : 1, 0);
      check.due("from(0) behind read", x.from(0), 1);
      check.due("TRUE by the image", x.now(4), busy ? 9 : 0);
      check.due("PLEADED by the image", x.now(1), 1);
      check.due("undo() by the image", x.undo(), 0);
      check.due("from(1) behind read", x.from(1), busy ? DoeRoe.NO : 1);
    }
  }

  /** THE TEXT stays, so that it can be read again, and gone on with. */
  private static void textStays() {
    DoeRoe x = typed("book 1;");
    check.due("read()", x.read(), 1);
    x.fiction(0, 0, 0, 0);
    check.due("read() again", x.read(), 1);
    check.due("count(0) then", x.count(0), 0);
    for (char c : "court 3 1;".toCharArray()) {
      x.type(c);
    }
    check.due("read() of more", x.read(), 2);
    check.due("HEARD", x.hear(), 1);
    x.type('x');
    check.due("read() of too much", x.read(), -27);
    check.due("HEARD still", x.hear(), 1);
    check.due("clear()", x.clear(), 18);
    check.due("read() of none", x.read(), -10);
    check.due("HEARD still then", x.hear(), 1);
  }
}

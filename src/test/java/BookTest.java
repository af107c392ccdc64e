/** Promises 1 to 7: a new object, book, fiction, court, type, clear, read. */
public final class BookTest {
  private static final Check check = new Check();

  public static void main(String[] args) {
    newObject();
    book();
    bookKeeps();
    fiction();
    court();
    typeAndClear();
    readWhole();
    readFaults();
    readMost();
    readTakesThePlace();
    faultChangesNothing();
    check.end("BookTest");
  }

  private static void newObject() {
    DoeRoe x = new DoeRoe();
    for (int what = 0; what <= 7; what++) {
      check.due("new count(" + what + ")", x.count(what), 0);
    }
    for (int what = 0; what <= 4; what++) {
      check.due("new now(" + what + ")", x.now(what), 0);
    }
    check.due("new part(0)", x.part(0), 0);
    check.due("new part(1)", x.part(1), 1);
    check.due("new from(0)", x.from(0), DoeRoe.NO);
    check.due("new from(1)", x.from(1), DoeRoe.NO);
    check.status(x, "of a new object", 0, 2, 0);
  }

  private static void book() {
    DoeRoe x = new DoeRoe();
    check.due("book(255)", x.book(255), 0);
    check.due("now(4)", x.now(4), 255);
    check.due("now(0)", x.now(0), 255);
    x.fiction(0, 0, 0, 0);
    x.fiction(0, 0, 1, 0);
    x.court(0, 0);
    x.plead(1);
    x.note(0, 1, 1);
    x.heard(0, 1);
    check.due("book(256)", x.book(256), DoeRoe.BAD);
    check.due("book(-1)", x.book(-1), DoeRoe.BAD);
    check.due("count(0) behind a refused book", x.count(0), 2);
    check.due("book(0)", x.book(0), 2);
    for (int what = 0; what <= 7; what++) {
      check.due("count(" + what + ") behind book(0)", x.count(what), 0);
    }
    for (int what = 0; what <= 4; what++) {
      check.due("now(" + what + ") behind book(0)", x.now(what), 0);
    }
    check.due("undo() behind book", x.undo(), DoeRoe.NO);
    check.status(x, "behind books", 2, 1, 0);
  }

  private static void bookKeeps() {
    DoeRoe x = new DoeRoe();
    x.book(1);
    x.court(1, 0);
    x.odds(0, 5);
    x.type(98);
    x.image(1);
    x.book(4);
    check.due("part(0) behind book", x.part(0), 1);
    check.due("part(1) behind book", x.part(1), 1);
    check.due("count(7) behind book", x.count(7), 1);
    check.due("from(1) behind book", x.from(1), 1);
    check.due("now(4) from the image", x.now(4), 1);
    check.due("count(1) from the image", x.count(1), 1);
  }

  private static void fiction() {
    DoeRoe x = new DoeRoe();
    int[][] bad = {{-1, 0, 0, 0}, {6, 0, 0, 0}, {0, -1, 0, 0}, {0, 256, 0, 0}, {0, 0, -1, 0},
        {0, 0, 8, 0}, {0, 0, 0, -1}, {0, 0, 0, 21}};
    for (int[] b : bad) {
      check.due("a bad fiction", x.fiction(b[0], b[1], b[2], b[3]), DoeRoe.BAD);
    }
    for (int f = 0; f < 6; f++) {
      check.due("fiction " + f, x.fiction(f, 250 + f, 7 - f, 15 + f), f);
    }
    check.due("a 7th fiction", x.fiction(0, 0, 0, 0), DoeRoe.FULL);
    check.due("a bad 7th fiction", x.fiction(6, 0, 0, 0), DoeRoe.BAD);
    for (int f = 0; f < 6; f++) {
      check.due("KIND", x.of(f, 0), f);
      check.due("NEEDS", x.of(f, 1), 250 + f);
      check.due("GIVES", x.of(f, 2), 7 - f);
      check.due("FEE", x.of(f, 3), 15 + f);
    }
    check.status(x, "behind fictions", 9, 0, 1);
  }

  private static void court() {
    DoeRoe x = new DoeRoe();
    check.due("court(-1, 0)", x.court(-1, 0), DoeRoe.BAD);
    check.due("court(256, 0)", x.court(256, 0), DoeRoe.BAD);
    check.due("court(0, -1)", x.court(0, -1), DoeRoe.BAD);
    check.due("court(0, 21)", x.court(0, 21), DoeRoe.BAD);
    for (int c = 0; c < 4; c++) {
      check.due("court " + c, x.court(252 + c, 17 + c), c);
    }
    check.due("a 5th court", x.court(0, 0), DoeRoe.FULL);
    check.due("a bad 5th court", x.court(256, 0), DoeRoe.BAD);
    for (int c = 0; c < 4; c++) {
      check.due("NEEDS of a court", x.rule(c), 252 + c);
    }
    x.book(255);
    x.court(255, 20);
    check.due("FEE of a court", x.least(0, 1, -1), 20);
    check.status(x, "behind courts", 5, 0, 1);
  }

  private static void typeAndClear() {
    DoeRoe x = new DoeRoe();
    check.due("clear() of none", x.clear(), 0);
    check.due("type(-1)", x.type(-1), DoeRoe.BAD);
    check.due("type(128)", x.type(128), DoeRoe.BAD);
    for (int i = 1; i <= 150; i++) {
      check.due("type, time " + i, x.type(i % 128), i);
    }
    check.due("a byte too many", x.type(0), DoeRoe.FULL);
    check.due("a bad byte too many", x.type(128), DoeRoe.BAD);
    check.due("count(7)", x.count(7), 150);
    check.due("clear()", x.clear(), 150);
    check.due("count(7) behind clear", x.count(7), 0);
    check.due("type(127)", x.type(127), 1);
    check.status(x, "behind types", 3, 0, 1);
  }

  private static void reads(String text, int want) {
    DoeRoe x = new DoeRoe();
    Check.type(x, text);
    check.due("read of '" + text + "'", x.read(), want);
    check.status(x, "behind a read of '" + text + "'", 0, 0, 0);
  }

  private static void readWhole() {
    reads("book;", 1);
    reads("  book  ;  ", 1);
    reads("book 0 1 2 3 4 5 6 7;", 1);
    reads("book 7 7 07 00;", 1);
    reads("book7;", 1);
    reads("book;fiction 5 7 20;court 20;", 3);
    reads("book;court 0 7 7;fiction 0 0 0 7 7;", 3);
    reads("book;fiction0 0 0;court0;", 3);
    DoeRoe x = new DoeRoe();
    String whole = "book 0 7;fiction 5 6 20 1 03;fiction 0 0 00;court 19 2 4;court 1;";
    Check.type(x, whole);
    check.due("read of a whole book", x.read(), 5);
    check.due("TRUE", x.now(4), 129);
    check.due("KIND", x.of(0, 0), 5);
    check.due("NEEDS", x.of(0, 1), 10);
    check.due("GIVES", x.of(0, 2), 6);
    check.due("FEE", x.of(0, 3), 20);
    check.due("NEEDS of the other", x.of(1, 1), 0);
    check.due("count(0)", x.count(0), 2);
    check.due("count(1)", x.count(1), 2);
    check.due("NEEDS of court 0", x.rule(0), 20);
    check.due("FEE of court 1", x.least(1, 1, -1), 1);
    check.due("count(7) behind read", x.count(7), whole.length());
    check.due("read again", x.read(), 5);
    check.due("count(0) behind read again", x.count(0), 2);
    check.due("count(1) behind read again", x.count(1), 2);
    Check.type(x, "book;fiction 0 0 0;court 0;x");
    check.due("a fault", x.read(), -37);
    Check.type(x, "book 3;court 0;");
    check.due("read behind a fault", x.read(), 2);
    check.due("count(0) behind a fault", x.count(0), 0);
    check.due("count(1) behind a fault", x.count(1), 1);
  }

  private static void readFaults() {
    reads("", -10);
    reads("   ", -13);
    reads("book", -14);
    reads("book ", -15);
    reads("book 1", -16);
    reads("boo", -10);
    reads(" books;", -11);
    reads("bookz;", -10);
    reads("abook;", -10);
    reads("cook;", -10);
    reads("bool;", -10);
    reads("book 1 x;", -17);
    reads("book;fiction 1 x", -25);
    reads("Book;", -10);
    reads("book`", -14);
    reads("book{", -14);
    reads("book/", -14);
    reads("book:", -14);
    reads("bookA;", -14);
    reads(";book;", -10);
    reads("7 book;", -10);
    reads("court 0;book;", -10);
    reads("fiction 0 0 0;", -10);
    reads("book;book;", -15);
    reads("book;;", -15);
    reads("book;7", -15);
    reads("book; x", -16);
    reads("book 8;", -15);
    reads("book 1 10;", -17);
    reads("book 001;", -15);
    reads("book 1 0000", -17);
    reads("book 1-", -16);
    reads("book\t1;", -14);
    reads("book court;", -15);
    reads("book 1court", -16);
    reads("book;fiction;", -22);
    reads("book;fiction", -22);
    reads("book;fiction 6", -23);
    reads("book;fiction 5", -24);
    reads("book;fiction 5 8", -25);
    reads("book;fiction 5 7", -26);
    reads("book;fiction 5 7 21", -27);
    reads("book;fiction 5 7;", -26);
    reads("book;fiction 5 7 20", -29);
    reads("book;fiction 5 7 20 8", -30);
    reads("book;fiction 5 7 20 7 fiction", -32);
    reads("book;court;", -20);
    reads("book;court 21;", -21);
    reads("book;court 20", -23);
    reads("book;court 20 8;", -24);
    reads("book;court 200;", -21);
    reads("book;courts 20;", -15);
    reads("book;fictions", -15);
    reads("book;" + (char) 0, -15);
  }

  private static void readMost() {
    StringBuilder most = new StringBuilder("book;");
    for (int f = 0; f < 6; f++) {
      most.append("fiction 0 0 0;");
    }
    reads(most.toString(), 7);
    reads(most + "fiction", -10 - most.length());
    for (int c = 0; c < 4; c++) {
      most.append("court 0;");
    }
    reads(most.toString(), 11);
    reads(most + " court", -11 - most.length());
    reads(most + "fiction 9", -10 - most.length());
    reads(most + ";", -10 - most.length());
    StringBuilder wide = new StringBuilder("book 7;");
    while (wide.length() < 150) {
      wide.append(' ');
    }
    reads(wide.toString(), 1);
  }

  private static DoeRoe busy() {
    DoeRoe x = new DoeRoe();
    x.book(1);
    x.fiction(0, 1, 2, 3);
    x.court(1, 4);
    x.plead(0);
    x.note(0, 1, 1);
    x.heard(0, 1);
    x.odds(0, 5);
    x.image(0);
    x.plead(0);
    return x;
  }

  private static void readTakesThePlace() {
    DoeRoe x = busy();
    Check.type(x, "book 5;");
    check.due("read in place of another", x.read(), 1);
    for (int what = 0; what <= 6; what++) {
      check.due("count(" + what + ") behind read", x.count(what), what == 2 ? 1 : 0);
    }
    check.due("now(0) behind read", x.now(0), 32);
    for (int what = 1; what <= 3; what++) {
      check.due("now(" + what + ") behind read", x.now(what), 0);
    }
    check.due("count(7) behind read", x.count(7), 7);
    check.due("part(0) behind read", x.part(0), 1);
    check.due("undo() behind read", x.undo(), DoeRoe.NO);
    check.due("from(0) behind read", x.from(0), 1);
    check.due("now(1) from the image", x.now(1), 1);
    check.status(x, "behind read", 0, 2, 0);
  }

  private static void faultChangesNothing() {
    DoeRoe x = busy();
    Check.type(x, "book 5;fiction 0 0 0;court 9;no");
    long before = x.digest();
    check.due("read of a faulty one", x.read(), -39);
    check.due("digest behind a fault", x.digest(), before);
    check.due("undo() behind a fault", x.undo(), 0);
  }
}

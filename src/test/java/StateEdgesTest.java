import java.math.BigInteger;
import java.util.List;

/** The edges of a new object, of a book, of what there is (promises 1, 2, 31 to 36). */
public final class StateEdgesTest {
  private static final Check check = new Check();

  public static void main(String[] args) {
    aNewObject();
    twoNewObjects();
    bookOfAFullOne();
    bookOfAnEmptyOne();
    theFractionAtFirst();
    imageOfAnEmptyOne();
    imageKeepsAll();
    imageIsApart();
    imageKeepsUndo();
    imageKeepsNot();
    imageAnew();
    imagesStay();
    statusCountsEach();
    statusIsNotTheImages();
    countOfAll();
    digestWraps();
    digestByEachPart();
    digestWithoutTheRest();
    the512thCall();
    check.end("StateEdgesTest");
  }

  /** "As told; no FICTIONS, COURTS.": none at first of all there is */
  private static void aNewObject() {
    DoeRoe x = new DoeRoe();
    for (int what = 0; what < 8; what++) {
      check.due("count(" + what + ")", x.count(what), 0);
    }
    for (int what = 0; what < 5; what++) {
      check.due("now(" + what + ")", x.now(what), 0);
    }
    check.status(x, "of a new object", 0, 0, 0);
    check.due("part(0)", x.part(0), 0);
    check.due("part(1)", x.part(1), 1);
    check.due("clear()", x.clear(), 0);
    check.due("read()", x.read(), -10);
    check.due("suit()", x.suit(), 0);
    check.due("undo()", x.undo(), DoeRoe.NO);
    check.due("from(0)", x.from(0), DoeRoe.NO);
    check.due("from(1)", x.from(1), DoeRoe.NO);
    check.due("forget(0)", x.forget(0), 0);
    check.due("forget(1)", x.forget(1), 0);
    check.due("terms(0, 60)", x.terms(0, 60), 0);
    check.due("book(0)", x.book(0), 0);
    check.due("fiction(0, 0, 0, 0)", x.fiction(0, 0, 0, 0), 0);
    check.due("court(0, 0)", x.court(0, 0), 0);
    check.due("type(0)", x.type(0), 1);
    check.due("note(0, 0, 0)", x.note(0, 0, 0), 1);
    check.due("heard(0, 0)", x.heard(0, 0), 1);
  }

  /** What one object is told is nothing to another. */
  private static void twoNewObjects() {
    DoeRoe x = Made.full();
    DoeRoe y = new DoeRoe();
    x.status(9);
    check.isTrue("another is empty", Sight.of(y).equals(Sight.of(new DoeRoe())));
    check.isTrue("this one is full", Sight.of(x).equals(Sight.of(Made.full())));
  }

  private static int placeOf(List<String> rows, String begins) {
    for (int i = 0; i < rows.size(); i++) {
      if (rows.get(i).startsWith(begins)) {
        return i;
      }
    }
    return rows.size();
  }

  /** "all else as at first (but for IMAGES, THE TEXT, THE FRACTION, STATUS)" */
  private static void bookOfAFullOne() {
    DoeRoe x = Made.full();
    x.undo();
    x.type(0);
    x.type(-1);
    x.plead(6);
    x.deny(5);
    check.due("book(129)", x.book(129), 6);
    check.status(x, "behind book", 2, 1, 1);
    int[] want = {0, 0, 2, 0, 0, 0, 0, 150};
    for (int what = 0; what < 8; what++) {
      check.due("count(" + what + ") behind book", x.count(what), want[what]);
    }
    int[] suit = {129, 0, 0, 0, 129};
    for (int what = 0; what < 5; what++) {
      check.due("now(" + what + ") behind book", x.now(what), suit[what]);
    }
    check.due("above stays", x.part(0), 49);
    check.due("below stays", x.part(1), 100);
    List<String> then = Sight.of(x);
    List<String> full = Sight.of(Made.full());
    check.isTrue("THE TEXT, IMAGES stay", then.subList(placeOf(then, "read"), then.size())
        .equals(full.subList(placeOf(full, "read"), full.size())));
  }

  /** "how many FICTIONS there were": 0 .. 6 */
  private static void bookOfAnEmptyOne() {
    DoeRoe x = new DoeRoe();
    for (int many = 0; many <= 6; many++) {
      for (int f = 0; f < many; f++) {
        x.fiction(0, 0, 0, 0);
      }
      check.due("book behind " + many, x.book(many), many);
      check.due("TRUE", x.now(4), many);
    }
    check.due("book(256)", x.book(256), DoeRoe.BAD);
    check.due("TRUE stays", x.now(4), 6);
  }

  /** "THE FRACTION is 0 by 1 at first": it stays so until odds */
  private static void theFractionAtFirst() {
    DoeRoe x = new DoeRoe();
    check.due("odds of no COURT", x.odds(0, 5), DoeRoe.BAD);
    check.due("above", x.part(0), 0);
    check.due("below", x.part(1), 1);
    x.court(0, 0);
    x.terms(5, 5);
    check.due("above, behind other calls", x.part(0), 0);
    check.due("below, behind other calls", x.part(1), 1);
    check.due("odds", x.odds(0, 5), 1);
    check.due("above, by odds", x.part(0), 1);
    check.due("below, by odds", x.part(1), 1);
  }

  private static void imageOfAnEmptyOne() {
    for (int i = 0; i < 2; i++) {
      DoeRoe x = new DoeRoe();
      check.due("image(" + i + ")", x.image(i), 1);
      x.book(255);
      x.fiction(0, 0, 0, 0);
      x.court(0, 0);
      x.plead(0);
      x.note(0, 0, 0);
      x.heard(0, 0);
      check.due("from(" + i + ")", x.from(i), 1);
      check.due("digest() of an empty one", x.digest(), new DoeRoe().digest());
      check.due("undo() of an empty one", x.undo(), DoeRoe.NO);
      check.due("from(" + (1 - i) + ")", x.from(1 - i), DoeRoe.NO);
    }
  }

  /** IMAGES keep all of a full object, and it goes on from one as if nothing had been. */
  private static void imageKeepsAll() {
    for (int i = 0; i < 2; i++) {
      DoeRoe x = Made.full();
      DoeRoe y = Made.full();
      x.image(i);
      y.image(i);
      x.undo();
      x.undo();
      x.forget(0);
      x.forget(1);
      x.book(3);
      x.fiction(1, 2, 3, 4);
      x.court(5, 6);
      check.due("from(" + i + ")", x.from(i), 1);
      check.isTrue("all is as it was", Sight.of(x).equals(Sight.of(y)));
    }
  }

  /** What comes behind does not change an IMAGE, nor what comes behind from. */
  private static void imageIsApart() {
    DoeRoe x = Made.full();
    x.image(0);
    long before = x.digest();
    for (int time = 0; time < 3; time++) {
      x.undo();
      x.plead(4);
      x.plead(5);
      x.forget(0);
      x.note(1, 1, 1);
      x.forget(1);
      x.heard(1, 1);
      check.isTrue("another digest", x.digest() != before);
      x.from(0);
      check.due("digest(), time " + time, x.digest(), before);
      check.due("count(6), time " + time, x.count(6), 8);
    }
    x.book(7);
    x.court(1, 1);
    x.image(1);
    long second = x.digest();
    x.from(0);
    check.due("digest() of image 0", x.digest(), before);
    x.plead(5);
    x.from(1);
    check.due("digest() of image 1", x.digest(), second);
  }

  /** "what may be undone they keep": all eight, in their order */
  private static void imageKeepsUndo() {
    DoeRoe x = Made.full();
    x.image(1);
    int[] steps = {6, 6, 6, 5, 4, 4, 3, 2};
    int[] pleaded = {7, 15, 31, 15, 7, 15, 7, 3};
    for (int time = 0; time < 2; time++) {
      for (int k = 0; k < 8; k++) {
        check.due("count(6)", x.count(6), 8 - k);
        check.due("undo() " + k, x.undo(), steps[k]);
        check.due("PLEADED " + k, x.now(1), pleaded[k]);
      }
      check.due("undo() of no more", x.undo(), DoeRoe.NO);
      x.from(1);
    }
    // An IMAGE of one that has nothing to undo takes away what another has.
    x.suit();
    x.image(0);
    x.plead(0);
    x.from(0);
    check.due("undo() behind from", x.undo(), DoeRoe.NO);
  }

  /** "IMAGES 0, 1 keep all but them, THE TEXT, THE FRACTION and STATUS" */
  private static void imageKeepsNot() {
    DoeRoe x = new DoeRoe();
    x.image(0);
    Check.type(x, "book 1;court 1 1;");
    x.read();
    x.odds(0, 5);
    x.plead(0);
    x.image(1);
    x.from(0);
    check.due("count(1) by the image", x.count(1), 0);
    check.due("count(7) stays", x.count(7), 17);
    check.due("above stays", x.part(0), 1);
    check.due("below stays", x.part(1), 1);
    check.status(x, "stays", 1, 0, 0);
    check.due("from(1), kept later", x.from(1), 1);
    check.due("count(1) by the other", x.count(1), 1);
    x.clear();
    x.from(0);
    check.due("count(7) is not brought back", x.count(7), 0);
    check.due("read() of none", x.read(), -10);
  }

  private static void imageAnew() {
    DoeRoe x = new DoeRoe();
    for (int facts = 0; facts <= 255; facts += 17) {
      x.book(facts);
      check.due("image(0)", x.image(0), 1);
      x.book(255 - facts);
      check.due("image(1)", x.image(1), 1);
      x.from(0);
      check.due("TRUE by image 0", x.now(4), facts);
      x.from(1);
      check.due("TRUE by image 1", x.now(4), 255 - facts);
    }
    check.status(x, "behind images", 0, 0, 0);
  }

  /** IMAGES stay behind a book, a read, a SUIT anew, and one behind the other. */
  private static void imagesStay() {
    DoeRoe x = new DoeRoe();
    x.book(1);
    x.image(0);
    x.book(2);
    x.image(1);
    Check.type(x, "book 7;");
    x.read();
    x.suit();
    check.due("from(0)", x.from(0), 1);
    check.due("TRUE by image 0", x.now(4), 1);
    check.due("from(1)", x.from(1), 1);
    check.due("TRUE by image 1", x.now(4), 2);
    check.due("from(2)", x.from(2), DoeRoe.BAD);
    check.due("image(2)", x.image(2), DoeRoe.BAD);
    check.due("image(-1)", x.image(-1), DoeRoe.BAD);
    check.due("from(0) again", x.from(0), 1);
    check.due("TRUE by image 0 still", x.now(4), 1);
  }

  /** "-1: another what (counts as BAD)", "least BAD: -10" counts as BAD */
  private static void statusCountsEach() {
    DoeRoe x = new DoeRoe();
    for (int k = 0; k < 3; k++) {
      check.status(x, "asking is not refused", 0, 0, 0);
    }
    check.due("status(3)", x.status(3), -1);
    check.due("status(-1)", x.status(-1), -1);
    check.status(x, "behind two others", 2, 0, 0);
    check.due("least", x.least(0, 0, 0), -10);
    check.status(x, "behind least", 3, 0, 0);
    check.due("read()", x.read(), -10);
    check.status(x, "behind a FAULT", 3, 0, 0);
    check.due("part(2)", x.part(2), DoeRoe.BAD);
    check.status(x, "behind part", 4, 0, 0);
    x.court(1, 0);
    x.fiction(0, 0, 1, 0);
    check.due("least, NONE", x.least(0, 0, -1), DoeRoe.NONE);
    check.due("fees, NONE", x.fees(0), DoeRoe.NONE);
    x.book(3);
    check.due("giveUp, NONE", x.giveUp(), DoeRoe.NONE);
    x.court(1, 0);
    check.due("least, not so many", x.least(0, 0, 0), -5);
    check.status(x, "NONE and -5 are not refused", 4, 0, 0);
  }

  private static void statusIsNotTheImages() {
    DoeRoe x = new DoeRoe();
    x.image(0);
    x.book(-1);
    x.undo();
    x.from(0);
    x.book(0);
    x.suit();
    x.clear();
    check.status(x, "stays behind from, book, suit, clear", 1, 1, 0);
  }

  private static void countOfAll() {
    DoeRoe x = new DoeRoe();
    for (int k = 1; k <= 6; k++) {
      x.fiction(0, 0, k, 0);
      check.due("count(0)", x.count(0), k);
    }
    for (int k = 1; k <= 4; k++) {
      x.court(0, 0);
      check.due("count(1)", x.count(1), k);
    }
    for (int k = 1; k <= 6; k++) {
      x.plead(k - 1);
      check.due("count(2)", x.count(2), k);
      check.due("count(3)", x.count(3), k);
      check.due("count(6)", x.count(6), k);
      x.note(0, 0, 0);
      check.due("count(4)", x.count(4), k);
      x.heard(0, 0);
      check.due("count(5)", x.count(5), k);
    }
    for (int k = 1; k <= 150; k++) {
      x.type(0);
      check.due("count(7)", x.count(7), k);
    }
    x.book(255);
    check.due("count(2), all TRUE", x.count(2), 8);
    check.due("count(3), none", x.count(3), 0);
  }

  private static BigInteger add(BigInteger h, long v) {
    return h.multiply(BigInteger.valueOf(31)).add(BigInteger.valueOf(v));
  }

  /** h of the full one, by numbers of any length, cut to a long at last */
  private static void digestWraps() {
    int[] rows = {
        6, 4, 4, 4, 6, 6, 8, 150,
        209, 15, 7, 58, 0,
        5, 7, 7, 20, 4, 128, 6, 19, 0, 64, 0, 0, 1, 192, 4, 7, 3, 1, 1, 9, 2, 0, 2, 20,
        144, 20, 255, 0, 0, 3, 192, 1,
        0, 0, 22, 0, 3, 25, 3, 2, 4, 3, 5, 4, 5, 20, 22, 1, 0, 60,
        0, 0, 1, 0, 2, 1, 3, 0, 0, 0, 1, 0,
        49, 100};
    BigInteger h = BigInteger.valueOf(1283);
    for (int v : rows) {
      h = add(h, v);
    }
    check.isTrue("it wraps around", h.bitLength() > 300);
    check.due("digest() of the full one", Made.full().digest(), h.longValue());
    BigInteger first = BigInteger.valueOf(1283);
    for (int k = 0; k < 14; k++) {
      first = add(first, 0);
    }
    check.due("digest() of a new one", new DoeRoe().digest(), add(first, 1).longValue());
  }

  /** Each part that is told is in it. */
  private static void digestByEachPart() {
    long full = Made.full().digest();
    DoeRoe[] others = new DoeRoe[9];
    for (int k = 0; k < others.length; k++) {
      others[k] = Made.full();
    }
    others[0].undo();
    others[1].plead(4);
    others[2].forget(0);
    others[3].forget(1);
    others[4].clear();
    others[5].odds(0, 4);
    others[6].suit();
    others[7].book(0);
    others[8].from(0);
    for (int k = 0; k < others.length; k++) {
      check.isTrue("another digest, " + k, others[k].digest() != full);
    }
  }

  /** IMAGES, STATUS, the bytes of THE TEXT, questions are not in it. */
  private static void digestWithoutTheRest() {
    DoeRoe x = Made.full();
    long full = x.digest();
    x.image(0);
    x.image(1);
    x.status(9);
    x.court(0, 0);
    x.plead(0);
    Check.type(x, Made.wide("court 1;"));
    x.read();
    x.terms(5, 5);
    x.digest();
    check.due("digest() without the rest", x.digest(), full);
  }

  /** "An object is used for at most 512 calls": the last one answers as the first did */
  private static void the512thCall() {
    DoeRoe x = Made.busy();
    long before = x.digest();
    // Made.busy made 58 calls or fewer; with this one, 512 are not passed.
    for (int k = 0; k < 450; k++) {
      check.due("digest(), time " + k, x.digest(), before);
    }
    x = new DoeRoe();
    for (int k = 0; k < 512; k++) {
      check.due("book, call " + (k + 1), x.book(k % 256), 0);
    }
  }
}

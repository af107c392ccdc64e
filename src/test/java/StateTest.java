/** Promises 31 to 36: part, image, from, status, count, digest. */
public final class StateTest {
  private static final Check check = new Check();

  public static void main(String[] args) {
    part();
    images();
    imagesKeepNot();
    status();
    count();
    digestOfNew();
    digestOfAll();
    check.end("StateTest");
  }

  private static void part() {
    DoeRoe x = new DoeRoe();
    check.due("part(0)", x.part(0), 0);
    check.due("part(1)", x.part(1), 1);
    check.due("part(-1)", x.part(-1), DoeRoe.BAD);
    check.due("part(2)", x.part(2), DoeRoe.BAD);
    check.status(x, "behind part", 2, 0, 0);
  }

  /** An object that has something of all there is. */
  private static DoeRoe busy() {
    DoeRoe x = new DoeRoe();
    x.book(5);
    x.fiction(0, 1, 1, 3);
    x.fiction(1, 192, 3, 4);
    x.fiction(5, 255, 7, 6);
    x.court(6, 7);
    x.court(130, 8);
    x.plead(2);
    x.plead(0);
    x.deny(2);
    x.note(0, 1, 3);
    x.note(2, 0, 8);
    x.heard(1, 0);
    x.heard(0, 1);
    x.heard(0, 0);
    x.type(98);
    x.type(59);
    x.odds(0, 5);
    return x;
  }

  private static void images() {
    DoeRoe x = busy();
    long before = x.digest();
    check.due("from(0), none", x.from(0), DoeRoe.NO);
    check.due("image(0)", x.image(0), 1);
    check.due("from(1), none", x.from(1), DoeRoe.NO);
    x.book(7);
    x.fiction(3, 3, 3, 3);
    check.due("image(1)", x.image(1), 1);
    long second = x.digest();
    check.due("from(0)", x.from(0), 1);
    check.due("digest from image 0", x.digest(), before);
    check.due("undo() from image 0", x.undo(), 2);
    check.due("PLEADED again", x.now(1), 5);
    check.due("undo() once more", x.undo(), 1);
    check.due("PAID then", x.now(3), 8);
    check.due("from(0) again", x.from(0), 1);
    check.due("digest from image 0 again", x.digest(), before);
    check.due("from(1)", x.from(1), 1);
    check.due("digest from image 1", x.digest(), second);
    check.due("image(0) anew", x.image(0), 1);
    x.book(0);
    x.from(0);
    check.due("digest from image 0 anew", x.digest(), second);
    for (int i : new int[] {-1, 2}) {
      check.due("image(" + i + ")", x.image(i), DoeRoe.BAD);
      check.due("from(" + i + ")", x.from(i), DoeRoe.BAD);
    }
    check.status(x, "behind images", 4, 2, 0);
  }

  private static void imagesKeepNot() {
    DoeRoe x = new DoeRoe();
    x.type(98);
    x.image(0);
    x.court(0, 0);
    x.odds(0, 3);
    x.type(98);
    x.book(-1);
    x.from(0);
    check.due("THE TEXT is not the image's", x.count(7), 2);
    check.due("THE FRACTION is not the image's", x.part(0), 1);
    check.due("the court is", x.count(1), 0);
    check.status(x, "is not the image's", 1, 0, 0);
    x.image(1);
    x.book(9);
    x.from(0);
    check.due("images keep no images", x.from(1), 1);
  }

  private static void status() {
    DoeRoe x = new DoeRoe();
    check.status(x, "at first", 0, 0, 0);
    check.due("status(3)", x.status(3), -1);
    check.due("status(-1)", x.status(-1), -1);
    check.status(x, "behind others", 2, 0, 0);
    x.least(0, 0, 0);
    check.status(x, "behind least", 3, 0, 0);
    x.read();
    check.status(x, "behind a fault", 3, 0, 0);
    x.undo();
    x.from(0);
    check.status(x, "behind undo, from", 3, 2, 0);
    for (int i = 0; i < 8; i++) {
      x.fiction(0, 0, 0, 0);
    }
    check.status(x, "behind fictions", 3, 2, 2);
    x.suit();
    x.book(0);
    check.status(x, "behind a book", 3, 2, 2);
  }

  private static void count() {
    DoeRoe x = busy();
    int[] want = {3, 2, 3, 1, 2, 3, 3, 2};
    for (int what = 0; what < 8; what++) {
      check.due("count(" + what + ")", x.count(what), want[what]);
    }
    check.due("count(-1)", x.count(-1), DoeRoe.BAD);
    check.due("count(8)", x.count(8), DoeRoe.BAD);
    check.status(x, "behind count", 2, 0, 0);
  }

  private static long digestOf(long... rows) {
    long h = 1283;
    for (long v : rows) {
      h = 31 * h + v;
    }
    return h;
  }

  private static void digestOfNew() {
    DoeRoe x = new DoeRoe();
    long want = digestOf(0, 0, 0, 0, 0, 0, 0, 0, 0, 0, 0, 0, 0, 0, 1);
    check.due("digest of a new one", x.digest(), want);
    x.status(9);
    check.due("digest without STATUS", x.digest(), want);
    x.image(0);
    check.due("digest without IMAGES", x.digest(), want);
  }

  private static void digestOfAll() {
    long want = digestOf(
        3, 2, 3, 1, 2, 3, 3, 2,
        7, 1, 2, 11, 5,
        0, 1, 1, 3, 1, 192, 3, 4, 5, 255, 7, 6,
        6, 7, 130, 8,
        0, 1, 3, 2, 0, 8,
        1, 0, 0, 1, 0, 0,
        1, 1);
    check.due("digest of a busy one", busy().digest(), want);
    DoeRoe x = busy();
    x.read();
    x.plead(0);
    check.due("digest behind refused ones", x.digest(), want);
  }
}

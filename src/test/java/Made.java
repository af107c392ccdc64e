/** Objects to look at: one that is empty, one that has something of all, one that is full of all. */
final class Made {
  private Made() {
  }

  static DoeRoe empty() {
    return new DoeRoe();
  }

  /** IMAGE 1 was not kept; FICTION 0 is PLEADED, 1 may not be, 2 was denied. */
  static DoeRoe busy() {
    DoeRoe x = new DoeRoe();
    x.book(9);
    x.fiction(2, 6, 5, 4);
    x.court(8, 2);
    x.plead(0);
    x.image(0);
    x.book(5);
    x.fiction(0, 1, 1, 3);
    x.fiction(1, 192, 3, 4);
    x.fiction(5, 255, 7, 6);
    x.court(6, 7);
    x.court(130, 8);
    x.plead(2);
    x.plead(0);
    x.odds(1, 4);
    x.deny(2);
    x.note(0, 1, 3);
    x.note(2, 0, 8);
    x.heard(1, 0);
    x.heard(0, 1);
    Check.type(x, "book 3;fiction 2 2 2 1;court 5 0;");
    x.plead(9);
    x.from(1);
    return x;
  }

  /** Six FICTIONS, four COURTS, six NOTES, six HEARD, 150 bytes, eight to undo, both IMAGES. */
  static DoeRoe full() {
    DoeRoe x = new DoeRoe();
    fillBook(x);
    x.plead(0);
    x.image(0);
    x.plead(1);
    x.image(1);
    x.plead(2);
    x.plead(3);
    x.deny(3);
    x.plead(3);
    x.plead(4);
    x.deny(4);
    x.deny(3);
    x.plead(3);
    x.odds(0, 3);
    Check.type(x, wide("book 2;court 3 1;"));
    return x;
  }

  private static void fillBook(DoeRoe x) {
    x.fiction(5, 7, 7, 20);
    x.fiction(4, 128, 6, 19);
    x.fiction(0, 64, 0, 0);
    x.fiction(1, 192, 4, 7);
    x.fiction(3, 1, 1, 9);
    x.fiction(2, 0, 2, 20);
    x.court(144, 20);
    x.court(255, 0);
    x.court(0, 3);
    x.court(192, 1);
    int[][] notes = {{0, 0, 22}, {0, 3, 25}, {3, 2, 4}, {3, 5, 4}, {5, 20, 22}, {1, 0, 60}};
    for (int k = 0; k < 6; k++) {
      x.note(notes[k][0], notes[k][1], notes[k][2]);
      x.heard(k % 4, k % 4 == 2 ? 1 : 0);
    }
  }

  /** A text with blanks behind it, as long as THE TEXT may be. */
  static String wide(String text) {
    StringBuilder wide = new StringBuilder(text);
    while (wide.length() < 150) {
      wide.append(' ');
    }
    return wide.toString();
  }
}

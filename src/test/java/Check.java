/** What every test uses: it tells each answer that is not the one due, and ends with 1 if one was. */
final class Check {
  // A test takes some seconds; one that goes on so long has met a call that does not end.
  private static final long MOST_MILLIS = 300000;

  private int wrong = 0;
  private int looked = 0;

  Check() {
    Thread watch = new Thread(Check::endIfTooLong);
    watch.setDaemon(true);
    watch.start();
  }

  private static void endIfTooLong() {
    try {
      Thread.sleep(MOST_MILLIS);
    } catch (InterruptedException e) {
      return;
    }
    System.out.println("the test does not end");
    Runtime.getRuntime().halt(1);
  }

  void due(String call, long got, long want) {
    looked++;
    if (got != want) {
      wrong++;
      System.out.println(call + " answered " + got + ", due is " + want);
    }
  }

  void status(DoeRoe x, String when, int bad, int no, int full) {
    due("status(0) " + when, x.status(0), bad);
    due("status(1) " + when, x.status(1), no);
    due("status(2) " + when, x.status(2), full);
  }

  void isTrue(String what, boolean holds) {
    due(what, holds ? 1 : 0, 1);
  }

  /** Types a text into an object that has an empty one. */
  static void type(DoeRoe x, String text) {
    x.clear();
    for (int i = 0; i < text.length(); i++) {
      x.type(text.charAt(i));
    }
  }

  void end(String name) {
    System.out.println(name + ": " + looked + " answers looked at, " + wrong + " wrong");
    if (wrong != 0) {
      System.exit(1);
    }
  }
}

import java.util.ArrayList;
import java.util.List;

/**
 * All that can be seen of an object but STATUS: its answers, what may be undone, its TEXT, its
 * IMAGES. The object is used up by it (some 170 calls), so it is for one of two that were made alike.
 */
final class Sight {
  private final DoeRoe x;
  private final List<String> rows = new ArrayList<>();

  private Sight(DoeRoe x) {
    this.x = x;
  }

  static List<String> of(DoeRoe x) {
    Sight s = new Sight(x);
    s.state();
    s.fictions();
    s.leads();
    s.past("now");
    s.see("read()", x.read());
    s.see("digest() behind read", x.digest());
    for (int i = 0; i < 2; i++) {
      s.see("from(" + i + ")", x.from(i));
      s.see("digest() from " + i, x.digest());
      s.past("from " + i);
    }
    return s.rows;
  }

  private void see(String call, long answer) {
    rows.add(call + " = " + answer);
  }

  private void state() {
    see("digest()", x.digest());
    see("part(0)", x.part(0));
    see("part(1)", x.part(1));
    for (int what = 0; what < 8; what++) {
      see("count(" + what + ")", x.count(what));
    }
    for (int what = 0; what < 5; what++) {
      see("now(" + what + ")", x.now(what));
    }
  }

  private void fictions() {
    for (int f = 0; f < x.count(0); f++) {
      for (int what = 0; what < 8; what++) {
        see("of(" + f + ", " + what + ")", x.of(f, what));
      }
      see("is(" + f + ")", x.is(f));
      see("look(" + f + ")", x.look(f));
    }
  }

  private void leads() {
    see("may()", x.may());
    see("hear()", x.hear());
    see("ever()", x.ever());
    see("contradict()", x.contradict());
    see("giveUp()", x.giveUp());
    see("fees(1)", x.fees(1));
    for (int court = 0; court < x.count(1); court++) {
      see("rule(" + court + ")", x.rule(court));
      see("least(" + court + ", 0, -1)", x.least(court, 0, -1));
      see("least(" + court + ", 1, -1)", x.least(court, 1, -1));
    }
    for (int what = 0; what < 3; what++) {
      see("truth(" + what + ")", x.truth(what));
    }
    see("terms(1, 9)", x.terms(1, 9));
  }

  private void past(String when) {
    for (int k = 0; k < 9; k++) {
      int steps = x.undo();
      see("undo() " + k + " of " + when, steps);
      if (steps < 0) {
        return;
      }
      see("PLEADED ahead of it", x.now(1));
      see("PAID ahead of it", x.now(3));
    }
  }
}

import java.util.ArrayList;
import java.util.List;
import java.util.Set;
import java.util.TreeSet;
import java.util.function.Consumer;
import java.util.function.Supplier;

/**
 * What each call that is taken changes, and that all else stays: the BOOK, the SUIT, what may be
 * undone, NOTES, HEARD, THE TEXT, THE FRACTION, STATUS, each IMAGE are looked at apart. Calls that
 * are refused are RefusedTest's.
 */
public final class EffectsTest {
  private static final Check check = new Check();
  private static final String[] ALL = {"BOOK", "SUIT", "UNDO", "NOTES", "HEARD", "TEXT",
      "FRACTION", "STATUS", "IMAGE 0", "IMAGE 1"};

  private final String name;
  private final Supplier<DoeRoe> made;
  private final int fictions;

  private EffectsTest(String name, Supplier<DoeRoe> made) {
    this.name = name;
    this.made = made;
    fictions = made.get().count(0);
  }

  public static void main(String[] args) {
    EffectsTest busy = new EffectsTest("busy", Made::busy);
    EffectsTest full = new EffectsTest("full", Made::full);
    for (EffectsTest t : new EffectsTest[] {busy, full}) {
      t.books();
      t.texts();
      t.suits();
      t.questions();
      t.recalls();
      t.states();
    }
    busy.more();
    full.pleadAndDeny();
    empty();
    check.end("EffectsTest");
  }

  /** One part of an object on which a call was made; the object is used up by it. */
  private List<Long> part(String part, DoeRoe x) {
    List<Long> rows = new ArrayList<>();
    switch (part) {
      case "BOOK":
        x.suit();
        x.forget(0);
        x.forget(1);
        x.clear();
        rows.add(digestWithoutFraction(x));
        break;
      case "SUIT":
        addSuit(x, rows);
        break;
      case "UNDO":
        addPast(x, rows);
        break;
      case "NOTES":
        rows.add((long) x.count(4));
        for (int f = 0; f < fictions; f++) {
          rows.add((long) x.is(f));
        }
        break;
      case "HEARD":
        rows.add((long) x.count(5));
        for (int what = 0; what < 3; what++) {
          rows.add((long) x.truth(what));
        }
        break;
      default:
        addOutside(part, x, rows);
    }
    return rows;
  }

  /** What an IMAGE does not keep. */
  private static void addOutside(String part, DoeRoe x, List<Long> rows) {
    switch (part) {
      case "TEXT":
        rows.add((long) x.count(7));
        x.book(0);
        rows.add((long) x.read());
        rows.add(digestWithoutFraction(x));
        break;
      case "FRACTION":
        rows.add(x.part(0));
        rows.add(x.part(1));
        break;
      case "STATUS":
        for (int what = 0; what < 3; what++) {
          rows.add((long) x.status(what));
        }
        break;
      default:
        x.clear();
        rows.add((long) x.from(part.equals("IMAGE 0") ? 0 : 1));
        rows.add(rows.get(0) == 1 ? digestWithoutFraction(x) : 0);
        if (rows.get(0) == 1) {
          addPast(x, rows);
        }
    }
  }

  private static long digestWithoutFraction(DoeRoe x) {
    return x.digest() - 31 * x.part(0) - x.part(1);
  }

  private static void addSuit(DoeRoe x, List<Long> rows) {
    for (int what = 1; what <= 3; what++) {
      rows.add((long) x.now(what));
    }
  }

  private static void addPast(DoeRoe x, List<Long> rows) {
    for (int k = x.count(6); k > 0; k--) {
      rows.add((long) x.undo());
      addSuit(x, rows);
    }
  }

  /** The call changes these parts and no other. */
  private void changes(String call, Consumer<DoeRoe> on, String... parts) {
    Set<String> want = new TreeSet<>(List.of(parts));
    Set<String> changed = new TreeSet<>();
    for (String p : ALL) {
      DoeRoe x = made.get();
      on.accept(x);
      if (!part(p, x).equals(part(p, made.get()))) {
        changed.add(p);
      }
    }
    check.isTrue(name + ": " + call + " changes " + changed + ", due is " + want,
        changed.equals(want));
  }

  private void books() {
    changes("book(77)", x -> x.book(77), "BOOK", "SUIT", "UNDO", "NOTES", "HEARD");
    changes("read()", x -> x.read(), "BOOK", "SUIT", "UNDO", "NOTES", "HEARD");
    changes("from(0)", x -> x.from(0), name.equals("busy")
        ? new String[] {"BOOK", "SUIT", "UNDO", "NOTES", "HEARD"} : new String[] {"SUIT", "UNDO"});
  }

  private void texts() {
    changes("clear()", x -> x.clear(), "TEXT");
    changes("clear(), type(98)", x -> {
      x.clear();
      x.type(98);
    }, "TEXT");
    changes("clear(), read()", x -> {
      x.clear();
      x.read();
    }, "TEXT");
  }

  private void suits() {
    changes("suit()", x -> x.suit(), "SUIT", "UNDO");
    changes("undo()", x -> x.undo(), "SUIT", "UNDO");
    for (int what = 0; what < 8; what++) {
      int w = what;
      changes("of(0, " + w + ")", x -> x.of(0, w));
      changes("of(2, " + w + ")", x -> x.of(2, w));
      changes("count(" + w + ")", x -> x.count(w));
    }
    for (int what = 0; what < 5; what++) {
      int w = what;
      changes("now(" + w + ")", x -> x.now(w));
    }
  }

  /** "(Nothing is changed by these; a SUIT as it is goes on.)" */
  private void questions() {
    changes("may()", x -> x.may());
    changes("hear()", x -> x.hear());
    changes("ever()", x -> x.ever());
    changes("contradict()", x -> x.contradict());
    changes("giveUp()", x -> x.giveUp());
    changes("denial(0)", x -> x.denial(0));
    for (int i = 0; i < 2; i++) {
      int k = i;
      changes("fees(" + k + ")", x -> x.fees(k));
      changes("rule(" + k + ")", x -> x.rule(k));
      for (int at = -1; at < 7; at++) {
        int a = at;
        changes("least(0, " + k + ", " + a + ")", x -> x.least(0, k, a));
        changes("least(1, " + k + ", " + a + ")", x -> x.least(1, k, a));
      }
    }
    for (int f = 0; f < 3; f++) {
      int g = f;
      changes("is(" + g + ")", x -> x.is(g));
      changes("look(" + g + ")", x -> x.look(g));
      changes("truth(" + g + ")", x -> x.truth(g));
      changes("terms(" + g + ", 60)", x -> x.terms(g, 60));
    }
  }

  private void recalls() {
    changes("forget(0)", x -> x.forget(0), "NOTES");
    changes("forget(1)", x -> x.forget(1), "HEARD");
    changes("odds(1, 9)", x -> x.odds(1, 9), "FRACTION");
  }

  private void states() {
    changes("part(0)", x -> x.part(0));
    changes("part(1)", x -> x.part(1));
    changes("image(0)", x -> x.image(0), "IMAGE 0");
    changes("image(1)", x -> x.image(1), "IMAGE 1");
    changes("status(0)", x -> x.status(0));
    changes("status(1)", x -> x.status(1));
    changes("status(2)", x -> x.status(2));
    changes("status(3)", x -> x.status(3), "STATUS");
    changes("digest()", x -> x.digest());
  }

  private void more() {
    changes("fiction(4, 1, 6, 2)", x -> x.fiction(4, 1, 6, 2), "BOOK", "UNDO");
    changes("court(1, 1)", x -> x.court(1, 1), "BOOK", "UNDO");
    changes("type(120)", x -> x.type(120), "TEXT");
    changes("note(1, 0, 4)", x -> x.note(1, 0, 4), "NOTES");
    changes("heard(1, 1)", x -> x.heard(1, 1), "HEARD");
    changes("deny(0), it does not win", x -> x.deny(0), "UNDO");
  }

  private void pleadAndDeny() {
    changes("plead(4)", x -> x.plead(4), "SUIT", "UNDO");
    changes("plead(5)", x -> x.plead(5), "SUIT", "UNDO");
    changes("deny(3), it wins", x -> x.deny(3), "SUIT", "UNDO");
    changes("deny(2), it does not win", x -> x.deny(2), "UNDO");
    changes("from(1)", x -> x.from(1), "SUIT", "UNDO");
  }

  private static void empty() {
    EffectsTest t = new EffectsTest("empty", Made::empty);
    t.changes("book(0)", x -> x.book(0));
    t.changes("clear()", x -> x.clear());
    t.changes("suit()", x -> x.suit());
    t.changes("read()", x -> x.read());
    t.changes("forget(0)", x -> x.forget(0));
    t.changes("forget(1)", x -> x.forget(1));
    t.changes("image(0)", x -> x.image(0), "IMAGE 0");
    t.changes("book(1)", x -> x.book(1), "BOOK");
    t.changes("fiction(0, 0, 0, 0)", x -> x.fiction(0, 0, 0, 0), "BOOK");
    t.changes("court(0, 0)", x -> x.court(0, 0), "BOOK");
    t.changes("type(0)", x -> x.type(0), "TEXT");
  }
}

import java.util.List;
import java.util.function.IntFunction;
import java.util.function.Supplier;
import java.util.function.ToLongFunction;

/**
 * "Refused, changing nothing but STATUS, the first of: BAD, NO, FULL": every call with every number
 * that is not as told, on both sides of what is, on an object that is empty, busy, full.
 */
public final class RefusedTest {
  private static final Check check = new Check();
  private static final int BAD = 0, NO = 1, FULL = 2;
  private static final int[] ANSWERS = {DoeRoe.BAD, DoeRoe.NO, DoeRoe.FULL};

  private final String name;
  private final Supplier<DoeRoe> made;
  private final List<String> sight;
  private final int[] status = new int[3];
  private final int fictions;
  private final int courts;

  private RefusedTest(String name, Supplier<DoeRoe> made) {
    this.name = name;
    this.made = made;
    DoeRoe x = made.get();
    fictions = x.count(0);
    courts = x.count(1);
    for (int s = 0; s < 3; s++) {
      status[s] = x.status(s);
    }
    sight = Sight.of(made.get());
  }

  public static void main(String[] args) {
    fullIsFull();
    RefusedTest empty = new RefusedTest("empty", Made::empty);
    RefusedTest busy = new RefusedTest("busy", Made::busy);
    RefusedTest full = new RefusedTest("full", Made::full);
    for (RefusedTest t : new RefusedTest[] {empty, busy, full}) {
      t.badBook();
      t.badSuit();
      t.badLeads();
      t.badNotes();
      t.badHeard();
      t.badState();
    }
    empty.badOfNone();
    empty.noOfNone();
    busy.noOfSome();
    full.noOfAll();
    full.fullOfAll();
    full.badAheadOfFull();
    manyRefused();
    check.end("RefusedTest");
  }

  private static void fullIsFull() {
    DoeRoe x = Made.full();
    int[] want = {6, 4, 4, 4, 6, 6, 8, 150};
    for (int what = 0; what < 8; what++) {
      check.due("count(" + what + ") of the full one", x.count(what), want[what]);
    }
  }

  /** The call answers so, one more is counted for the reason, and all else is as it was. */
  private void refused(String call, ToLongFunction<DoeRoe> on, long answer, int reason) {
    String told = name + ": " + call;
    DoeRoe x = made.get();
    check.due(told, on.applyAsLong(x), answer);
    for (int s = 0; s < 3; s++) {
      check.due("status(" + s + ") behind " + told, x.status(s),
          status[s] + (s == reason ? 1 : 0));
    }
    List<String> then = Sight.of(x);
    check.due("how much is seen behind " + told, then.size(), sight.size());
    for (int i = 0; i < Math.min(then.size(), sight.size()); i++) {
      check.isTrue("behind " + told + ": " + then.get(i) + ", ahead of it " + sight.get(i),
          then.get(i).equals(sight.get(i)));
    }
  }

  private void refused(String call, ToLongFunction<DoeRoe> on, int reason) {
    refused(call, on, ANSWERS[reason], reason);
  }

  /** Numbers not as told, where low .. high are: next to them, and those that wrap around. */
  private static int[] outside(int low, int high) {
    return new int[] {low - 1, high + 1, high + 256, Integer.MIN_VALUE, Integer.MAX_VALUE,
        -1073741824, 1073741824, 1 << 28, -65536};
  }

  private void bad(String call, int low, int high, IntFunction<Answer> of) {
    for (int v : outside(low, high)) {
      refused(call.replace("?", "" + v), x -> of.apply(v).on(x), BAD);
    }
  }

  private interface Answer {
    long on(DoeRoe x);
  }

  private void badBook() {
    bad("book(?)", 0, 255, v -> x -> x.book(v));
    bad("fiction(?, 0, 0, 0)", 0, 5, v -> x -> x.fiction(v, 0, 0, 0));
    bad("fiction(0, ?, 0, 0)", 0, 255, v -> x -> x.fiction(0, v, 0, 0));
    bad("fiction(0, 0, ?, 0)", 0, 7, v -> x -> x.fiction(0, 0, v, 0));
    bad("fiction(0, 0, 0, ?)", 0, 20, v -> x -> x.fiction(0, 0, 0, v));
    bad("court(?, 0)", 0, 255, v -> x -> x.court(v, 0));
    bad("court(0, ?)", 0, 20, v -> x -> x.court(0, v));
    bad("type(?)", 0, 127, v -> x -> x.type(v));
  }

  private void badSuit() {
    bad("plead(?)", 0, fictions - 1, v -> x -> x.plead(v));
    bad("deny(?)", 0, fictions - 1, v -> x -> x.deny(v));
    bad("of(?, 0)", 0, fictions - 1, v -> x -> x.of(v, 0));
    bad("of(?, 5)", 0, fictions - 1, v -> x -> x.of(v, 5));
    bad("of(0, ?)", 0, 7, v -> x -> x.of(0, v));
    bad("now(?)", 0, 4, v -> x -> x.now(v));
    // 1 << 32 is 1 << 0, so a number of 32 more must not be taken for the FICTION itself.
    for (int f : new int[] {6, 31, 32, 64, -32, -31}) {
      refused("plead(" + f + ")", x -> x.plead(f), BAD);
      refused("deny(" + f + ")", x -> x.deny(f), BAD);
      refused("denial(" + f + ")", x -> x.denial(f), BAD);
    }
  }

  private void leastBad(String call, int low, int high,
      IntFunction<Answer> of) {
    for (int v : outside(low, high)) {
      refused(call.replace("?", "" + v), x -> of.apply(v).on(x), -10, BAD);
    }
  }

  private void badLeads() {
    for (int i = -1; i <= 7; i += 4) {
      int at = i;
      leastBad("least(?, 0, " + at + ")", 0, courts - 1, v -> x -> x.least(v, 0, at));
      leastBad("least(?, 1, " + at + ")", 0, courts - 1, v -> x -> x.least(v, 1, at));
      leastBad("least(0, ?, " + at + ")", 0, 1, v -> x -> x.least(0, v, at));
    }
    for (int i : new int[] {-2, -3, -5, -10, -1073741824, Integer.MIN_VALUE}) {
      for (int court = 0; court < Math.max(1, courts); court++) {
        int c = court;
        refused("least(" + c + ", 0, " + i + ")", x -> x.least(c, 0, i), -10, BAD);
        refused("least(" + c + ", 1, " + i + ")", x -> x.least(c, 1, i), -10, BAD);
      }
    }
    bad("denial(?)", 0, fictions - 1, v -> x -> x.denial(v));
    bad("fees(?)", 0, 1, v -> x -> x.fees(v));
    bad("rule(?)", 0, courts - 1, v -> x -> x.rule(v));
  }

  private void badNotes() {
    bad("note(?, 0, 0)", 0, fictions - 1, v -> x -> x.note(v, 0, 0));
    bad("note(0, ?, 0)", 0, 20, v -> x -> x.note(0, v, 0));
    bad("note(0, 0, ?)", 0, 60, v -> x -> x.note(0, 0, v));
    bad("forget(?)", 0, 1, v -> x -> x.forget(v));
    bad("is(?)", 0, fictions - 1, v -> x -> x.is(v));
    bad("look(?)", 0, fictions - 1, v -> x -> x.look(v));
  }

  private void badHeard() {
    bad("heard(?, 0)", 0, courts - 1, v -> x -> x.heard(v, 0));
    bad("heard(?, 1)", 0, courts - 1, v -> x -> x.heard(v, 1));
    bad("heard(0, ?)", 0, 1, v -> x -> x.heard(0, v));
    bad("truth(?)", 0, 2, v -> x -> x.truth(v));
    bad("odds(?, 5)", 0, courts - 1, v -> x -> x.odds(v, 5));
    bad("odds(0, ?)", 0, 10, v -> x -> x.odds(0, v));
    bad("terms(?, 9)", 0, 999999, v -> x -> x.terms(v, 9));
    bad("terms(9, ?)", 0, 60, v -> x -> x.terms(9, v));
  }

  private void badState() {
    bad("part(?)", 0, 1, v -> x -> x.part(v));
    bad("image(?)", 0, 1, v -> x -> x.image(v));
    bad("from(?)", 0, 1, v -> x -> x.from(v));
    bad("count(?)", 0, 7, v -> x -> x.count(v));
    for (int v : outside(0, 2)) {
      refused("status(" + v + ")", x -> x.status(v), -1, BAD);
    }
  }

  /** With no FICTION, no COURT there is no number of one that is as told: 0 is none, too. */
  private void badOfNone() {
    refused("plead(0)", x -> x.plead(0), BAD);
    refused("deny(0)", x -> x.deny(0), BAD);
    for (int what = 0; what < 8; what++) {
      int w = what;
      refused("of(0, " + w + ")", x -> x.of(0, w), BAD);
    }
    refused("least(0, 0, -1)", x -> x.least(0, 0, -1), -10, BAD);
    refused("least(0, 1, 0)", x -> x.least(0, 1, 0), -10, BAD);
    refused("denial(0)", x -> x.denial(0), BAD);
    refused("rule(0)", x -> x.rule(0), BAD);
    refused("note(0, 0, 0)", x -> x.note(0, 0, 0), BAD);
    refused("heard(0, 0)", x -> x.heard(0, 0), BAD);
    refused("heard(0, 1)", x -> x.heard(0, 1), BAD);
    refused("is(0)", x -> x.is(0), BAD);
    refused("look(0)", x -> x.look(0), BAD);
    refused("odds(0, 0)", x -> x.odds(0, 0), BAD);
  }

  private void noOfNone() {
    refused("undo()", x -> x.undo(), NO);
    refused("from(0)", x -> x.from(0), NO);
    refused("from(1)", x -> x.from(1), NO);
  }

  private void noOfSome() {
    refused("plead(0), it is PLEADED", x -> x.plead(0), NO);
    refused("plead(1), its NEEDS are not SUPPOSED", x -> x.plead(1), NO);
    refused("plead(2), STEP 0 is behind", x -> x.plead(2), NO);
    refused("deny(1), it never was PLEADED", x -> x.deny(1), NO);
    refused("deny(2), it is PLEADED no more", x -> x.deny(2), NO);
    refused("denial(1), it never was PLEADED", x -> x.denial(1), NO);
    refused("denial(2), it is PLEADED no more", x -> x.denial(2), NO);
    refused("from(1), the other IMAGE was kept", x -> x.from(1), NO);
  }

  private void noOfAll() {
    for (int f = 0; f < 4; f++) {
      int g = f;
      refused("plead(" + g + "), it is PLEADED", x -> x.plead(g), NO);
    }
    for (int f = 4; f < 6; f++) {
      int g = f;
      refused("deny(" + g + "), it is not PLEADED", x -> x.deny(g), NO);
      refused("denial(" + g + "), it is not PLEADED", x -> x.denial(g), NO);
    }
  }

  private void fullOfAll() {
    refused("a 7th fiction", x -> x.fiction(0, 0, 0, 0), FULL);
    refused("another 7th fiction", x -> x.fiction(5, 255, 7, 20), FULL);
    refused("a 5th court", x -> x.court(0, 0), FULL);
    refused("another 5th court", x -> x.court(255, 20), FULL);
    refused("a 151st byte", x -> x.type(0), FULL);
    refused("another 151st byte", x -> x.type(127), FULL);
    refused("a 7th note", x -> x.note(0, 0, 0), FULL);
    refused("another 7th note", x -> x.note(5, 20, 60), FULL);
    refused("a 7th heard", x -> x.heard(0, 0), FULL);
    refused("another 7th heard", x -> x.heard(3, 1), FULL);
  }

  private void badAheadOfFull() {
    refused("a 7th fiction, all of it BAD", x -> x.fiction(6, 256, 8, 21), BAD);
    refused("a 5th court, all of it BAD", x -> x.court(256, 21), BAD);
    refused("a 151st byte, BAD", x -> x.type(128), BAD);
    refused("a 7th note, all of it BAD", x -> x.note(6, 21, 61), BAD);
    refused("a 7th heard, all of it BAD", x -> x.heard(4, 2), BAD);
  }

  /** STATUS counts each of them, up to the last of the 512 calls. */
  private static void manyRefused() {
    DoeRoe x = new DoeRoe();
    for (int k = 0; k < 509; k++) {
      x.undo();
    }
    check.status(x, "behind 509 refused", 0, 509, 0);
    x = new DoeRoe();
    for (int k = 1; k <= 511; k++) {
      check.due("status(3), time " + k, x.status(3), -1);
    }
    check.due("status(0) as the 512th call", x.status(0), 511);
    x = new DoeRoe();
    for (int k = 0; k < 4; k++) {
      x.court(0, 0);
    }
    for (int k = 0; k < 505; k++) {
      x.court(0, 0);
    }
    check.status(x, "behind 505 that were too many", 0, 0, 505);
  }
}

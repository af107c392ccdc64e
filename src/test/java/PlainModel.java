import java.math.BigInteger;
import java.util.ArrayList;
import java.util.HashSet;
import java.util.List;
import java.util.Set;
import java.util.TreeSet;
import java.util.regex.Matcher;
import java.util.regex.Pattern;

/**
 * The document told once more, with sets, lists and every row tried out, so that random runs can
 * be held against it. It shares nothing with the class but the document.
 */
final class PlainModel {
  static final class Fiction {
    final int kind;
    final Set<Integer> needs;
    final int gives;
    final int fee;

    Fiction(int kind, Set<Integer> needs, int gives, int fee) {
      this.kind = kind;
      this.needs = needs;
      this.gives = gives;
      this.fee = fee;
    }
  }

  static final class Court {
    final Set<Integer> needs;
    final int fee;

    Court(Set<Integer> needs, int fee) {
      this.needs = needs;
      this.fee = fee;
    }
  }

  static final class Suit {
    final Set<Integer> pleaded = new TreeSet<>();
    int steps = 0;
    int paid = 0;

    Suit copy() {
      Suit s = new Suit();
      s.pleaded.addAll(pleaded);
      s.steps = steps;
      s.paid = paid;
      return s;
    }
  }

  static final class World {
    Set<Integer> truth = new TreeSet<>();
    List<Fiction> fictions = new ArrayList<>();
    List<Court> courts = new ArrayList<>();
    Suit suit = new Suit();
    List<Suit> past = new ArrayList<>();
    List<int[]> notes = new ArrayList<>();
    List<int[]> heard = new ArrayList<>();

    World copy() {
      World w = new World();
      w.truth.addAll(truth);
      w.fictions.addAll(fictions);
      w.courts.addAll(courts);
      w.suit = suit.copy();
      for (Suit s : past) {
        w.past.add(s.copy());
      }
      w.notes.addAll(notes);
      w.heard.addAll(heard);
      return w;
    }
  }

  private World w = new World();
  private final World[] images = new World[2];
  private String text = "";
  private BigInteger above = BigInteger.ZERO;
  private BigInteger below = BigInteger.ONE;
  private final int[] status = new int[3];

  static Set<Integer> set(int bits) {
    Set<Integer> s = new TreeSet<>();
    for (int b = 0; b < 31; b++) {
      if ((bits & 1 << b) != 0) {
        s.add(b);
      }
    }
    return s;
  }

  static int bits(Set<Integer> set) {
    int bits = 0;
    for (int b : set) {
      bits += 1 << b;
    }
    return bits;
  }

  private int bad() {
    status[0]++;
    return -2;
  }

  private int no() {
    status[1]++;
    return -3;
  }

  private int full() {
    status[2]++;
    return -4;
  }

  private static boolean out(int v, int low, int high) {
    return v < low || v > high;
  }

  private boolean noFiction(int f) {
    return out(f, 0, w.fictions.size() - 1);
  }

  private boolean noCourt(int c) {
    return out(c, 0, w.courts.size() - 1);
  }

  private Set<Integer> facts(Set<Integer> pleaded) {
    Set<Integer> facts = new TreeSet<>(w.truth);
    for (int f : pleaded) {
      facts.add(w.fictions.get(f).gives);
    }
    return facts;
  }

  private static Set<Integer> contradictions(Set<Integer> facts) {
    Set<Integer> pairs = new TreeSet<>();
    for (int a : facts) {
      if (a % 2 == 0 && facts.contains(a + 1)) {
        pairs.add(a / 2);
      }
    }
    return pairs;
  }

  private boolean may(int f, Suit s) {
    if (s.pleaded.contains(f)) {
      return false;
    }
    Fiction x = w.fictions.get(f);
    Set<Integer> met = new HashSet<>(x.needs);
    met.retainAll(facts(s.pleaded));
    boolean all = met.size() == x.needs.size();
    switch (x.kind) {
      case 0:
      case 1:
        return all;
      case 3:
        return all && s.steps % 2 == 1;
      case 4:
        return all || !met.isEmpty();
      default:
        return all || s.steps == 0;
    }
  }

  private static int cost(int kind, int fee, int d) {
    switch (kind) {
      case 1:
      case 3:
        return d < 2 ? fee : fee - fee / 2;
      case 2:
        return fee + 2;
      case 5:
        return fee + 2 + d;
      default:
        return fee;
    }
  }

  private int cost(int f, Suit s) {
    return cost(w.fictions.get(f).kind, w.fictions.get(f).fee, s.steps);
  }

  private boolean wins(int f) {
    Set<Integer> lies = new HashSet<>(w.fictions.get(f).needs);
    lies.removeAll(w.truth);
    int[] from = {99, 2, 99, 1, 99, 3};
    return lies.size() >= from[w.fictions.get(f).kind];
  }

  private void pleadIn(Suit s, int f) {
    s.paid += cost(f, s);
    s.pleaded.add(f);
    s.steps++;
  }

  private Set<Integer> hearing(Set<Integer> facts) {
    Set<Integer> courts = new TreeSet<>();
    for (int c = 0; c < w.courts.size(); c++) {
      if (facts.containsAll(w.courts.get(c).needs)) {
        courts.add(c);
      }
    }
    return courts;
  }

  private void keepPast() {
    w.past.add(w.suit.copy());
    if (w.past.size() > 8) {
      w.past.remove(0);
    }
  }

  int book(int facts) {
    if (out(facts, 0, 255)) {
      return bad();
    }
    int were = w.fictions.size();
    w = new World();
    w.truth = set(facts);
    return were;
  }

  int fiction(int kind, int needs, int gives, int fee) {
    if (out(kind, 0, 5) || out(needs, 0, 255) || out(gives, 0, 7) || out(fee, 0, 20)) {
      return bad();
    }
    if (w.fictions.size() == 6) {
      return full();
    }
    w.fictions.add(new Fiction(kind, set(needs), gives, fee));
    w.past.clear();
    return w.fictions.size() - 1;
  }

  int court(int needs, int fee) {
    if (out(needs, 0, 255) || out(fee, 0, 20)) {
      return bad();
    }
    if (w.courts.size() == 4) {
      return full();
    }
    w.courts.add(new Court(set(needs), fee));
    w.past.clear();
    return w.courts.size() - 1;
  }

  int type(int c) {
    if (out(c, 0, 127)) {
      return bad();
    }
    if (text.length() == 150) {
      return full();
    }
    text += (char) c;
    return text.length();
  }

  int clear() {
    int had = text.length();
    text = "";
    return had;
  }

  private static final Pattern TOKEN = Pattern.compile("[a-z]+|[0-9]+|[^ ]", Pattern.DOTALL);

  int read() {
    List<String> tokens = new ArrayList<>();
    List<Integer> places = new ArrayList<>();
    Matcher m = TOKEN.matcher(text);
    while (m.find()) {
      tokens.add(m.group());
      places.add(m.start());
    }
    World draft = new World();
    int items = 0;
    int at = 0;
    while (items == 0 || at < tokens.size()) {
      // What may stand here: a word, then numbers up to the bounds, then FACTS up to a ;
      String word = at < tokens.size() ? tokens.get(at) : null;
      boolean stands = items == 0 ? "book".equals(word)
          : "fiction".equals(word) && draft.fictions.size() < 6
          || "court".equals(word) && draft.courts.size() < 4;
      if (!stands) {
        return -10 - place(places, at);
      }
      at++;
      int[] bounds = word.equals("book") ? new int[0]
          : word.equals("court") ? new int[] {20} : new int[] {5, 7, 20};
      int[] head = new int[bounds.length];
      for (int i = 0; i < bounds.length; i++, at++) {
        if (!isNumber(tokens, at, bounds[i])) {
          return -10 - place(places, at);
        }
        head[i] = Integer.parseInt(tokens.get(at));
      }
      Set<Integer> facts = new TreeSet<>();
      for (; at < tokens.size() && !tokens.get(at).equals(";"); at++) {
        if (!isNumber(tokens, at, 7)) {
          return -10 - place(places, at);
        }
        facts.add(Integer.parseInt(tokens.get(at)));
      }
      if (at >= tokens.size()) {
        return -10 - text.length();
      }
      at++;
      items++;
      if (word.equals("book")) {
        draft.truth = facts;
      } else if (word.equals("court")) {
        draft.courts.add(new Court(facts, head[0]));
      } else {
        draft.fictions.add(new Fiction(head[0], facts, head[1], head[2]));
      }
    }
    w = draft;
    return items;
  }

  private int place(List<Integer> places, int at) {
    return at < places.size() ? places.get(at) : text.length();
  }

  private static boolean isNumber(List<String> tokens, int at, int most) {
    return at < tokens.size() && tokens.get(at).matches("[0-9]{1,2}")
        && Integer.parseInt(tokens.get(at)) <= most;
  }

  int suit() {
    int were = w.suit.pleaded.size();
    w.suit = new Suit();
    w.past.clear();
    return were;
  }

  int plead(int f) {
    if (noFiction(f)) {
      return bad();
    }
    if (!may(f, w.suit)) {
      return no();
    }
    keepPast();
    int before = w.suit.paid;
    pleadIn(w.suit, f);
    return w.suit.paid - before;
  }

  int deny(int f) {
    if (noFiction(f)) {
      return bad();
    }
    if (!w.suit.pleaded.contains(f)) {
      return no();
    }
    keepPast();
    if (wins(f)) {
      w.suit.pleaded.remove(f);
      return 1;
    }
    return 0;
  }

  int undo() {
    if (w.past.isEmpty()) {
      return no();
    }
    w.suit = w.past.remove(w.past.size() - 1);
    return w.suit.steps;
  }

  int of(int f, int what) {
    if (noFiction(f) || out(what, 0, 7)) {
      return bad();
    }
    Fiction x = w.fictions.get(f);
    int[] all = {x.kind, bits(x.needs), x.gives, x.fee, w.suit.pleaded.contains(f) ? 1 : 0,
        may(f, w.suit) ? 1 : 0, cost(f, w.suit), wins(f) ? 1 : 0};
    return all[what];
  }

  int now(int what) {
    if (out(what, 0, 4)) {
      return bad();
    }
    int[] all = {bits(facts(w.suit.pleaded)), bits(w.suit.pleaded), w.suit.steps, w.suit.paid,
        bits(w.truth)};
    return all[what];
  }

  int may() {
    Set<Integer> set = new TreeSet<>();
    for (int f = 0; f < w.fictions.size(); f++) {
      if (may(f, w.suit)) {
        set.add(f);
      }
    }
    return bits(set);
  }

  int hear() {
    return bits(hearing(facts(w.suit.pleaded)));
  }

  /** All rows from a suit on, shorter ones ahead of those that go on from them, rising. */
  private void rows(Suit s, List<Integer> row, List<List<Integer>> found, List<Suit> ends) {
    found.add(new ArrayList<>(row));
    ends.add(s);
    for (int f = 0; f < w.fictions.size(); f++) {
      if (may(f, s)) {
        Suit next = s.copy();
        pleadIn(next, f);
        row.add(f);
        rows(next, row, found, ends);
        row.remove(row.size() - 1);
      }
    }
  }

  /** How much the least row is (without the court's fee), and the row itself; null: none. */
  private int[] leastRow(int court, int what) {
    List<List<Integer>> found = new ArrayList<>();
    List<Suit> ends = new ArrayList<>();
    rows(w.suit.copy(), new ArrayList<>(), found, ends);
    int[] best = null;
    for (int r = 0; r < found.size(); r++) {
      if (hearing(facts(ends.get(r).pleaded)).contains(court)) {
        int much = what == 0 ? found.get(r).size() : ends.get(r).paid - w.suit.paid;
        if (best == null || much < best[0]) {
          best = new int[found.get(r).size() + 1];
          best[0] = much;
          for (int i = 0; i < found.get(r).size(); i++) {
            best[i + 1] = found.get(r).get(i);
          }
        }
      }
    }
    return best;
  }

  int least(int court, int what, int i) {
    if (noCourt(court) || out(what, 0, 1) || i < -1) {
      bad();
      return -10;
    }
    int[] best = leastRow(court, what);
    if (best == null) {
      return -1;
    }
    if (i == -1) {
      return best[0] + (what == 1 ? w.courts.get(court).fee : 0);
    }
    return i < best.length - 1 ? best[i + 1] : -5;
  }

  int ever() {
    List<Suit> ends = new ArrayList<>();
    rows(w.suit.copy(), new ArrayList<>(), new ArrayList<>(), ends);
    Set<Integer> all = new TreeSet<>();
    for (Suit s : ends) {
      all.addAll(facts(s.pleaded));
    }
    return bits(all);
  }

  int contradict() {
    return bits(contradictions(facts(w.suit.pleaded)));
  }

  int giveUp() {
    for (int size = 0; size <= 6; size++) {
      for (int b = 0; b < 64; b++) {
        Set<Integer> given = set(b);
        if (given.size() == size && w.suit.pleaded.containsAll(given)) {
          Set<Integer> rest = new TreeSet<>(w.suit.pleaded);
          rest.removeAll(given);
          if (contradictions(facts(rest)).isEmpty()) {
            return b;
          }
        }
      }
    }
    return -1;
  }

  int denial(int f) {
    if (noFiction(f)) {
      return bad();
    }
    if (!w.suit.pleaded.contains(f)) {
      return no();
    }
    int hit = wins(f) ? 1 : 0;
    // By [stands, withdraws][denied, not].
    int[][] one = {{hit == 1 ? -3 : 2, 2}, {0, 0}};
    int[][] other = {{hit == 1 ? 3 : -1, 0}, {-1, 0}};
    int rest = 0;
    for (int a = 0; a < 2; a++) {
      for (int b = 0; b < 2; b++) {
        if (one[a][b] >= one[1 - a][b] && other[a][b] >= other[a][1 - b]) {
          rest += 1 << (a + 2 * b);
        }
      }
    }
    return rest;
  }

  int fees(int what) {
    if (out(what, 0, 1)) {
      return bad();
    }
    int which = -1;
    int much = -1;
    for (int c = w.courts.size() - 1; c >= 0; c--) {
      int[] best = leastRow(c, 1);
      if (best != null && (which == -1 || best[0] + w.courts.get(c).fee <= much)) {
        which = c;
        much = best[0] + w.courts.get(c).fee;
      }
    }
    return what == 0 ? which : much;
  }

  int rule(int court) {
    if (noCourt(court)) {
      return bad();
    }
    Set<Integer> less = new TreeSet<>(w.courts.get(court).needs);
    less.removeAll(facts(w.suit.pleaded));
    return bits(less);
  }

  int note(int f, int d, int p) {
    if (noFiction(f) || out(d, 0, 20) || out(p, 0, 60)) {
      return bad();
    }
    if (w.notes.size() == 6) {
      return full();
    }
    w.notes.add(new int[] {f, d, p});
    return w.notes.size();
  }

  int heard(int court, int is) {
    if (noCourt(court) || out(is, 0, 1)) {
      return bad();
    }
    if (w.heard.size() == 6) {
      return full();
    }
    w.heard.add(new int[] {court, is});
    return w.heard.size();
  }

  int forget(int what) {
    if (out(what, 0, 1)) {
      return bad();
    }
    List<int[]> rows = what == 0 ? w.notes : w.heard;
    int were = rows.size();
    rows.clear();
    return were;
  }

  private Set<Integer> kinds(int f) {
    Set<Integer> kinds = set(63);
    for (int[] n : w.notes) {
      if (n[0] == f) {
        kinds.removeIf(k -> cost(k, w.fictions.get(f).fee, n[1]) != n[2]);
      }
    }
    return kinds;
  }

  int is(int f) {
    return noFiction(f) ? bad() : bits(kinds(f));
  }

  int look(int f) {
    if (noFiction(f)) {
      return bad();
    }
    int best = -1;
    int fewest = 99;
    for (int d = 9; d >= 0; d--) {
      int[] alike = new int[100];
      int most = 0;
      for (int k : kinds(f)) {
        int c = cost(k, w.fictions.get(f).fee, d);
        alike[c]++;
        most = Math.max(most, alike[c]);
      }
      if (most > 0 && most <= fewest) {
        fewest = most;
        best = d;
      }
    }
    return best;
  }

  int truth(int what) {
    if (out(what, 0, 2)) {
      return bad();
    }
    int many = 0;
    Set<Integer> all = set(255);
    Set<Integer> some = new TreeSet<>();
    for (int b = 0; b < 256; b++) {
      Set<Integer> facts = set(b);
      boolean fits = contradictions(facts).isEmpty();
      for (int[] h : w.heard) {
        fits &= facts.containsAll(w.courts.get(h[0]).needs) == (h[1] == 1);
      }
      if (fits) {
        many++;
        all.retainAll(facts);
        some.addAll(facts);
      }
    }
    return what == 0 ? many : what == 2 ? bits(some) : many == 0 ? -1 : bits(all);
  }

  /** The chance, times 10 to the power of how many may be denied, one after the other. */
  private BigInteger chance(int court, int c, List<Integer> open, Set<Integer> pleaded) {
    if (open.isEmpty()) {
      return hearing(facts(pleaded)).contains(court) ? BigInteger.ONE : BigInteger.ZERO;
    }
    List<Integer> rest = open.subList(1, open.size());
    Set<Integer> without = new TreeSet<>(pleaded);
    without.remove(open.get(0));
    return chance(court, c, rest, without).multiply(BigInteger.valueOf(c))
        .add(chance(court, c, rest, pleaded).multiply(BigInteger.valueOf(10 - c)));
  }

  int odds(int court, int c) {
    if (noCourt(court) || out(c, 0, 10)) {
      return bad();
    }
    List<Integer> open = new ArrayList<>();
    for (int f : w.suit.pleaded) {
      if (wins(f)) {
        open.add(f);
      }
    }
    BigInteger over = chance(court, c, open, w.suit.pleaded);
    BigInteger under = BigInteger.TEN.pow(open.size());
    BigInteger divisor = over.gcd(under);
    above = over.divide(divisor);
    below = under.divide(divisor);
    return 1;
  }

  int terms(int seed, int n) {
    if (out(seed, 0, 999999) || out(n, 0, 60)) {
      return bad();
    }
    BigInteger x = BigInteger.valueOf(seed);
    Suit s = w.suit.copy();
    for (int i = 0; i < n; i++) {
      x = x.multiply(BigInteger.valueOf(1103515245)).add(BigInteger.valueOf(12345))
          .mod(BigInteger.ONE.shiftLeft(31));
      int f = x.shiftRight(16).mod(BigInteger.valueOf(6)).intValue();
      if (f < w.fictions.size()) {
        if (may(f, s)) {
          pleadIn(s, f);
        } else if (s.pleaded.contains(f) && wins(f)) {
          s.pleaded.remove(f);
        }
      }
    }
    return hearing(facts(s.pleaded)).size();
  }

  long part(int what) {
    return out(what, 0, 1) ? bad() : what == 0 ? above.longValue() : below.longValue();
  }

  int image(int i) {
    if (out(i, 0, 1)) {
      return bad();
    }
    images[i] = w.copy();
    return 1;
  }

  int from(int i) {
    if (out(i, 0, 1)) {
      return bad();
    }
    if (images[i] == null) {
      return no();
    }
    w = images[i].copy();
    return 1;
  }

  int status(int what) {
    if (out(what, 0, 2)) {
      bad();
      return -1;
    }
    return status[what];
  }

  int count(int what) {
    if (out(what, 0, 7)) {
      return bad();
    }
    int[] all = {w.fictions.size(), w.courts.size(), facts(w.suit.pleaded).size(),
        w.suit.pleaded.size(), w.notes.size(), w.heard.size(), w.past.size(), text.length()};
    return all[what];
  }

  long digest() {
    List<Long> rows = new ArrayList<>();
    for (int what = 0; what < 8; what++) {
      rows.add((long) count(what));
    }
    for (int what = 0; what < 5; what++) {
      rows.add((long) now(what));
    }
    for (Fiction f : w.fictions) {
      rows.addAll(List.of((long) f.kind, (long) bits(f.needs), (long) f.gives, (long) f.fee));
    }
    for (Court c : w.courts) {
      rows.addAll(List.of((long) bits(c.needs), (long) c.fee));
    }
    for (int[] n : w.notes) {
      rows.addAll(List.of((long) n[0], (long) n[1], (long) n[2]));
    }
    for (int[] h : w.heard) {
      rows.addAll(List.of((long) h[0], (long) h[1]));
    }
    rows.addAll(List.of(above.longValue(), below.longValue()));
    long h = 1283;
    for (long v : rows) {
      h = 31 * h + v;
    }
    return h;
  }
}

/**
 * John Doe sues Richard Roe: facts, fictions that are pleaded so that a court may hear of them,
 * and what follows from that. The document's numbered promises say what each call answers.
 */
public final class DoeRoe {
  public static final int NONE = -1, BAD = -2, NO = -3, FULL = -4;

  private static final int NOT_SO_MANY = -5;
  private static final int LEAST_BAD = -10;
  private static final int STATUS_BAD = -1;
  private static final int FAULT_BASE = -10;

  private static final int FACTS = 8;
  private static final int PAIRS = 4;
  private static final int ALL_FACTS = 255;
  private static final int EVEN_FACTS = 85;
  private static final int KINDS = 6;
  private static final int MOST_FICTIONS = 6;
  private static final int FICTION_SETS = 64;
  private static final int MOST_COURTS = 4;
  private static final int MOST_FEE = 20;
  private static final int MOST_NOTES = 6;
  private static final int MOST_NOTE_STEP = 20;
  private static final int MOST_NOTE_PAID = 60;
  private static final int MOST_HEARD = 6;
  private static final int MOST_UNDO = 8;
  private static final int MOST_BYTES = 150;
  private static final int LAST_LOOK_STEP = 9;
  private static final int MOST_SEED = 999999;
  private static final int MOST_TERMS = 60;

  // The columns of a FICTION's row, in the order in which of(f, what) asks for them.
  private static final int KIND = 0, NEEDS = 1, GIVES = 2, FEE = 3;
  private static final int COURT_NEEDS = 0, COURT_FEE = 1;
  private static final int NOTE_FICTION = 0, NOTE_STEP = 1, NOTE_PAID = 2;
  private static final int HEARD_COURT = 0, HEARD_IS = 1;
  private static final int UNDO_PLEADED = 0, UNDO_STEPS = 1, UNDO_PAID = 2;

  private static final int FEWEST = 0, CHEAPEST = 1;

  private final Matter matter;
  private final Matter draft;
  private final Matter firstImage;
  private final Matter secondImage;
  private final BookText text;
  private final Paths paths;
  private boolean firstKept;
  private boolean secondKept;
  private long above;
  private long below;
  private int bads;
  private int nos;
  private int fulls;

  public DoeRoe() {
    Plain[] kinds = {new Plain(), new Persons(), new Force(), new Time(), new Letter(), new Ship()};
    matter = new Matter(kinds);
    draft = new Matter(kinds);
    firstImage = new Matter(kinds);
    secondImage = new Matter(kinds);
    text = new BookText();
    paths = new Paths();
    above = 0L;
    below = 1L;
  }

  // ---- a book

  public int book(int facts) {
    if (!within(facts, 0, ALL_FACTS)) {
      return refuseBad();
    }
    int were = matter.fictions.size;
    matter.begin(facts);
    return were;
  }

  public int fiction(int kind, int needs, int gives, int fee) {
    if (!within(kind, 0, KINDS - 1) || !within(needs, 0, ALL_FACTS)
        || !within(gives, 0, FACTS - 1) || !within(fee, 0, MOST_FEE)) {
      return refuseBad();
    }
    if (matter.fictions.isFull()) {
      return refuseFull();
    }
    matter.fictions.add(kind, needs, gives, fee);
    matter.undos.empty();
    return matter.fictions.size - 1;
  }

  public int court(int needs, int fee) {
    if (!within(needs, 0, ALL_FACTS) || !within(fee, 0, MOST_FEE)) {
      return refuseBad();
    }
    if (matter.courts.isFull()) {
      return refuseFull();
    }
    matter.courts.add(needs, fee, 0, 0);
    matter.undos.empty();
    return matter.courts.size - 1;
  }

  public int type(int c) {
    if (!within(c, 0, 127)) {
      return refuseBad();
    }
    if (text.isFull()) {
      return refuseFull();
    }
    text.add(c);
    return text.length;
  }

  public int clear() {
    int had = text.length;
    text.length = 0;
    return had;
  }

  public int read() {
    int items = text.readInto(draft);
    if (items > 0) {
      matter.become(draft);
    }
    return items;
  }

  // ---- a suit

  public int suit() {
    int were = Integer.bitCount(matter.pleaded);
    matter.beginSuit();
    return were;
  }

  public int plead(int f) {
    if (!isFiction(f)) {
      return refuseBad();
    }
    if (!mayPlead(f)) {
      return refuseNo();
    }
    int cost = matter.ownCost(f, matter.steps);
    matter.keepForUndo();
    matter.pleaded |= 1 << f;
    matter.paid += cost;
    matter.steps++;
    return cost;
  }

  public int deny(int f) {
    if (!isFiction(f)) {
      return refuseBad();
    }
    if (!isPleaded(f)) {
      return refuseNo();
    }
    // A denial that does not win is a denial, too: it is one that can be undone.
    matter.keepForUndo();
    if (!matter.denialWins(f)) {
      return 0;
    }
    matter.pleaded &= ~(1 << f);
    return 1;
  }

  public int undo() {
    if (matter.undos.size == 0) {
      return refuseNo();
    }
    matter.takeBack();
    return matter.steps;
  }

  public int of(int f, int what) {
    if (!isFiction(f) || !within(what, 0, 7)) {
      return refuseBad();
    }
    switch (what) {
      case 4:
        return isPleaded(f) ? 1 : 0;
      case 5:
        return mayPlead(f) ? 1 : 0;
      case 6:
        return matter.ownCost(f, matter.steps);
      case 7:
        return matter.denialWins(f) ? 1 : 0;
      default:
        return matter.fictions.cell(f, what);
    }
  }

  public int now(int what) {
    switch (what) {
      case 0:
        return supposed();
      case 1:
        return matter.pleaded;
      case 2:
        return matter.steps;
      case 3:
        return matter.paid;
      case 4:
        return matter.trueFacts;
      default:
        return refuseBad();
    }
  }

  // ---- where it leads

  public int may() {
    int fictions = 0;
    for (int f = 0; f < MOST_FICTIONS; f++) {
      if (isFiction(f) && mayPlead(f)) {
        fictions |= 1 << f;
      }
    }
    return fictions;
  }

  public int hear() {
    return matter.hearing(supposed());
  }

  public int least(int court, int what, int i) {
    if (!isCourt(court) || !within(what, FEWEST, CHEAPEST) || i < NONE) {
      refuseBad();
      return LEAST_BAD;
    }
    int least = paths.measure(matter, court, what);
    if (least == NONE) {
      return NONE;
    }
    if (i == NONE) {
      return what == CHEAPEST ? least + matter.courts.cell(court, COURT_FEE) : least;
    }
    return paths.fictionAt(matter, i);
  }

  public int ever() {
    return paths.reachable(matter);
  }

  public int contradict() {
    return pairsIn(supposed());
  }

  public int giveUp() {
    int given = NONE;
    for (int set = 0; set < FICTION_SETS; set++) {
      if ((set & ~matter.pleaded) == 0 && fewer(set, given)
          && !contradictIn(matter.factsWith(matter.pleaded & ~set))) {
        given = set;
      }
    }
    return given;
  }

  public int denial(int f) {
    if (!isFiction(f)) {
      return refuseBad();
    }
    if (!isPleaded(f)) {
      return refuseNo();
    }
    boolean wins = matter.denialWins(f);
    int resting = 0;
    for (int pair = 0; pair < 4; pair++) {
      int one = pair & 1;
      int other = pair >> 1;
      if (gainOfOne(one, other, wins) >= gainOfOne(1 - one, other, wins)
          && gainOfOther(one, other, wins) >= gainOfOther(one, 1 - other, wins)) {
        resting |= 1 << pair;
      }
    }
    return resting;
  }

  public int fees(int what) {
    if (!within(what, 0, 1)) {
      return refuseBad();
    }
    int which = NONE;
    int much = NONE;
    for (int court = 0; court < matter.courts.size; court++) {
      int least = paths.measure(matter, court, CHEAPEST);
      int whole = least + matter.courts.cell(court, COURT_FEE);
      if (least != NONE && (which == NONE || whole < much)) {
        which = court;
        much = whole;
      }
    }
    return what == 0 ? which : much;
  }

  public int rule(int court) {
    if (!isCourt(court)) {
      return refuseBad();
    }
    return matter.courts.cell(court, COURT_NEEDS) & ~supposed();
  }

  // ---- which was true

  public int note(int f, int d, int p) {
    if (!isFiction(f) || !within(d, 0, MOST_NOTE_STEP) || !within(p, 0, MOST_NOTE_PAID)) {
      return refuseBad();
    }
    if (matter.notes.isFull()) {
      return refuseFull();
    }
    matter.notes.add(f, d, p, 0);
    return matter.notes.size;
  }

  public int heard(int court, int is) {
    if (!isCourt(court) || !within(is, 0, 1)) {
      return refuseBad();
    }
    if (matter.hearings.isFull()) {
      return refuseFull();
    }
    matter.hearings.add(court, is, 0, 0);
    return matter.hearings.size;
  }

  public int forget(int what) {
    if (!within(what, 0, 1)) {
      return refuseBad();
    }
    Rows rows = what == 0 ? matter.notes : matter.hearings;
    int were = rows.size;
    rows.empty();
    return were;
  }

  public int is(int f) {
    if (!isFiction(f)) {
      return refuseBad();
    }
    return matter.kindsByNotes(f);
  }

  public int look(int f) {
    if (!isFiction(f)) {
      return refuseBad();
    }
    int kinds = matter.kindsByNotes(f);
    int step = NONE;
    int fewest = KINDS + 1;
    for (int d = 0; d <= LAST_LOOK_STEP && kinds != 0; d++) {
      int alike = matter.mostAlike(f, kinds, d);
      if (alike < fewest) {
        fewest = alike;
        step = d;
      }
    }
    return step;
  }

  public int truth(int what) {
    if (!within(what, 0, 2)) {
      return refuseBad();
    }
    int sets = 0;
    int inAll = ALL_FACTS;
    int inSome = 0;
    for (int facts = 0; facts <= ALL_FACTS; facts++) {
      if (!contradictIn(facts) && matter.fitsHearings(facts)) {
        sets++;
        inAll &= facts;
        inSome |= facts;
      }
    }
    if (what == 0) {
      return sets;
    }
    if (what == 2) {
      return inSome;
    }
    return sets == 0 ? NONE : inAll;
  }

  public int odds(int court, int c) {
    if (!isCourt(court) || !within(c, 0, 10)) {
      return refuseBad();
    }
    int open = matter.pleadedThatLose();
    int many = Integer.bitCount(open);
    long chance = 0L;
    for (int denied = 0; denied < FICTION_SETS; denied++) {
      if ((denied & ~open) == 0
          && matter.courtHears(court, matter.factsWith(matter.pleaded & ~denied))) {
        int lost = Integer.bitCount(denied);
        chance += power(c, lost) * power(10 - c, many - lost);
      }
    }
    keepFraction(chance, power(10, many));
    return 1;
  }

  public int terms(int seed, int n) {
    if (!within(seed, 0, MOST_SEED) || !within(n, 0, MOST_TERMS)) {
      return refuseBad();
    }
    long x = seed;
    int set = matter.pleaded;
    int d = matter.steps;
    for (int i = 0; i < n; i++) {
      x = (x * 1103515245L + 12345L) % 2147483648L;
      int f = (int) (x / 65536L % MOST_FICTIONS);
      int then = matter.afterTerm(f, set, d);
      // Only a FICTION that was PLEADED makes the set greater, and only that is a STEP.
      if (then > set) {
        d++;
      }
      set = then;
    }
    return Integer.bitCount(matter.hearing(matter.factsWith(set)));
  }

  // ---- what there is

  public long part(int what) {
    if (!within(what, 0, 1)) {
      return refuseBad();
    }
    return what == 0 ? above : below;
  }

  public int image(int i) {
    if (!within(i, 0, 1)) {
      return refuseBad();
    }
    if (i == 0) {
      firstImage.become(matter);
      firstKept = true;
    } else {
      secondImage.become(matter);
      secondKept = true;
    }
    return 1;
  }

  public int from(int i) {
    if (!within(i, 0, 1)) {
      return refuseBad();
    }
    if (i == 0 ? !firstKept : !secondKept) {
      return refuseNo();
    }
    matter.become(i == 0 ? firstImage : secondImage);
    return 1;
  }

  public int status(int what) {
    switch (what) {
      case 0:
        return bads;
      case 1:
        return nos;
      case 2:
        return fulls;
      default:
        refuseBad();
        return STATUS_BAD;
    }
  }

  public int count(int what) {
    switch (what) {
      case 0:
        return matter.fictions.size;
      case 1:
        return matter.courts.size;
      case 2:
        return Integer.bitCount(supposed());
      case 3:
        return Integer.bitCount(matter.pleaded);
      case 4:
        return matter.notes.size;
      case 5:
        return matter.hearings.size;
      case 6:
        return matter.undos.size;
      case 7:
        return text.length;
      default:
        return refuseBad();
    }
  }

  public long digest() {
    long h = 1283L;
    for (int what = 0; what <= 7; what++) {
      h = 31L * h + count(what);
    }
    for (int what = 0; what <= 4; what++) {
      h = 31L * h + now(what);
    }
    h = matter.fictions.digestFrom(h);
    h = matter.courts.digestFrom(h);
    h = matter.notes.digestFrom(h);
    h = matter.hearings.digestFrom(h);
    h = 31L * h + above;
    return 31L * h + below;
  }

  // ---- what the calls share

  private int refuseBad() {
    bads++;
    return BAD;
  }

  private int refuseNo() {
    nos++;
    return NO;
  }

  private int refuseFull() {
    fulls++;
    return FULL;
  }

  private static boolean within(int value, int low, int high) {
    return value >= low && value <= high;
  }

  private boolean isFiction(int f) {
    return f >= 0 && f < matter.fictions.size;
  }

  private boolean isCourt(int court) {
    return court >= 0 && court < matter.courts.size;
  }

  private boolean isPleaded(int f) {
    return holds(matter.pleaded, f);
  }

  private boolean mayPlead(int f) {
    return !isPleaded(f) && matter.allowed(f, supposed(), matter.steps);
  }

  private int supposed() {
    return matter.factsWith(matter.pleaded);
  }

  private static boolean holds(int set, int member) {
    return (set >> member & 1) == 1;
  }

  private static boolean fewer(int set, int given) {
    return given == NONE || Integer.bitCount(set) < Integer.bitCount(given);
  }

  private static boolean contradictIn(int facts) {
    return (facts & facts >> 1 & EVEN_FACTS) != 0;
  }

  private static int pairsIn(int facts) {
    int pairs = 0;
    for (int pair = 0; pair < PAIRS; pair++) {
      if ((facts >> 2 * pair & 3) == 3) {
        pairs |= 1 << pair;
      }
    }
    return pairs;
  }

  private static int gainOfOne(int one, int other, boolean wins) {
    if (one == 1) {
      return 0;
    }
    return other == 0 && wins ? -3 : 2;
  }

  private static int gainOfOther(int one, int other, boolean wins) {
    if (other == 1) {
      return 0;
    }
    return one == 0 && wins ? 3 : -1;
  }

  private static long power(int base, int times) {
    long product = 1L;
    for (int i = 0; i < times; i++) {
      product *= base;
    }
    return product;
  }

  private void keepFraction(long over, long under) {
    long divisor = commonDivisor(over, under);
    if (divisor > 0L) {
      above = over / divisor;
      below = under / divisor;
    }
  }

  private static long commonDivisor(long one, long other) {
    long a = one;
    long b = other;
    // Each second turn halves b at least, so 200 turns are more than any long needs.
    for (int i = 0; i < 200 && b != 0L; i++) {
      long left = a % b;
      a = b;
      b = left;
    }
    return a;
  }

  // ---- the KINDS, each under the one told

  private static class Plain {
    boolean allows(int needed, int met, int d) {
      return met == needed;
    }

    int cost(int fee, int d) {
      return fee;
    }

    boolean losesWith(int untrue) {
      return false;
    }
  }

  private static class Persons extends Plain {
    int cost(int fee, int d) {
      int plain = super.cost(fee, d);
      return d >= 2 ? (plain + 1) / 2 : plain;
    }

    boolean losesWith(int untrue) {
      return untrue >= 2;
    }
  }

  private static class Force extends Plain {
    boolean allows(int needed, int met, int d) {
      return d == 0 || super.allows(needed, met, d);
    }

    int cost(int fee, int d) {
      return super.cost(fee, d) + 2;
    }
  }

  private static final class Time extends Persons {
    boolean allows(int needed, int met, int d) {
      return (d & 1) == 1 && super.allows(needed, met, d);
    }

    boolean losesWith(int untrue) {
      return untrue >= 1;
    }
  }

  private static final class Letter extends Plain {
    boolean allows(int needed, int met, int d) {
      return met >= 1 || super.allows(needed, met, d);
    }
  }

  private static final class Ship extends Force {
    int cost(int fee, int d) {
      return super.cost(fee, d) + d;
    }

    boolean losesWith(int untrue) {
      return untrue >= 3;
    }
  }

  /** Rows of numbers, as they come, up to a bound; made once and used again. */
  private static final class Rows {
    final int most;
    final int width;
    final int[] cells;
    int size;

    Rows(int most, int width) {
      this.most = most;
      this.width = width;
      this.cells = new int[Math.max(0, most * width)];
    }

    boolean isFull() {
      return size >= most;
    }

    void empty() {
      size = 0;
    }

    int cell(int row, int column) {
      int at = row * width + column;
      return at >= 0 && at < cells.length ? cells[at] : 0;
    }

    // Every row comes by this one way, so a narrow one takes only as many as it is wide.
    void add(int a, int b, int c, int d) {
      if (isFull()) {
        return;
      }
      put(size, 0, a);
      put(size, 1, b);
      put(size, 2, c);
      put(size, 3, d);
      size++;
    }

    void dropLast() {
      if (size > 0) {
        size--;
      }
    }

    void dropFirst() {
      for (int at = width; at < cells.length; at++) {
        int to = at - width;
        if (to >= 0) {
          cells[to] = cells[at];
        }
      }
      dropLast();
    }

    void become(Rows other) {
      for (int at = 0; at < cells.length && at < other.cells.length; at++) {
        cells[at] = other.cells[at];
      }
      size = other.size;
    }

    long digestFrom(long h) {
      long sum = h;
      for (int row = 0; row < size; row++) {
        for (int column = 0; column < width; column++) {
          sum = 31L * sum + cell(row, column);
        }
      }
      return sum;
    }

    private void put(int row, int column, int value) {
      int at = row * width + column;
      if (column < width && at >= 0 && at < cells.length) {
        cells[at] = value;
      }
    }
  }

  /** All that an IMAGE keeps: the BOOK, the SUIT, what may be undone, NOTES and HEARD. */
  private static final class Matter {
    final Plain[] kinds;
    final Plain plain;
    final Rows fictions;
    final Rows courts;
    final Rows notes;
    final Rows hearings;
    final Rows undos;
    int trueFacts;
    int pleaded;
    int steps;
    int paid;

    Matter(Plain[] kinds) {
      this.kinds = kinds;
      plain = new Plain();
      fictions = new Rows(MOST_FICTIONS, 4);
      courts = new Rows(MOST_COURTS, 2);
      notes = new Rows(MOST_NOTES, 3);
      hearings = new Rows(MOST_HEARD, 2);
      undos = new Rows(MOST_UNDO, 3);
    }

    void begin(int facts) {
      trueFacts = facts;
      fictions.empty();
      courts.empty();
      notes.empty();
      hearings.empty();
      beginSuit();
    }

    void beginSuit() {
      pleaded = 0;
      steps = 0;
      paid = 0;
      undos.empty();
    }

    void become(Matter other) {
      trueFacts = other.trueFacts;
      pleaded = other.pleaded;
      steps = other.steps;
      paid = other.paid;
      fictions.become(other.fictions);
      courts.become(other.courts);
      notes.become(other.notes);
      hearings.become(other.hearings);
      undos.become(other.undos);
    }

    void keepForUndo() {
      if (undos.isFull()) {
        undos.dropFirst();
      }
      undos.add(pleaded, steps, paid, 0);
    }

    void takeBack() {
      int last = undos.size - 1;
      pleaded = undos.cell(last, UNDO_PLEADED);
      steps = undos.cell(last, UNDO_STEPS);
      paid = undos.cell(last, UNDO_PAID);
      undos.dropLast();
    }

    boolean allowed(int f, int facts, int d) {
      int needs = fictions.cell(f, NEEDS);
      int needed = Integer.bitCount(needs);
      int met = Integer.bitCount(needs & facts);
      return kindNumbered(fictions.cell(f, KIND)).allows(needed, met, d);
    }

    int ownCost(int f, int d) {
      return kindNumbered(fictions.cell(f, KIND)).cost(fictions.cell(f, FEE), d);
    }

    boolean denialWins(int f) {
      int untrue = Integer.bitCount(fictions.cell(f, NEEDS) & ~trueFacts);
      return kindNumbered(fictions.cell(f, KIND)).losesWith(untrue);
    }

    int pleadedThatLose() {
      int set = 0;
      for (int f = 0; f < fictions.size; f++) {
        if (holds(pleaded, f) && denialWins(f)) {
          set |= 1 << f;
        }
      }
      return set;
    }

    int factsWith(int set) {
      int facts = trueFacts;
      for (int f = 0; f < fictions.size; f++) {
        if (holds(set, f)) {
          facts |= 1 << fictions.cell(f, GIVES);
        }
      }
      return facts;
    }

    boolean courtHears(int court, int facts) {
      return (courts.cell(court, COURT_NEEDS) & ~facts) == 0;
    }

    int hearing(int facts) {
      int set = 0;
      for (int court = 0; court < courts.size; court++) {
        if (courtHears(court, facts)) {
          set |= 1 << court;
        }
      }
      return set;
    }

    int afterTerm(int f, int set, int d) {
      if (f < 0 || f >= fictions.size) {
        return set;
      }
      if (holds(set, f)) {
        return denialWins(f) ? set & ~(1 << f) : set;
      }
      return allowed(f, factsWith(set), d) ? set | 1 << f : set;
    }

    int kindsByNotes(int f) {
      int set = 0;
      for (int kind = 0; kind < KINDS; kind++) {
        if (fitsNotes(f, kind)) {
          set |= 1 << kind;
        }
      }
      return set;
    }

    int mostAlike(int f, int set, int d) {
      int most = 0;
      for (int kind = 0; kind < KINDS; kind++) {
        if (holds(set, kind)) {
          most = Math.max(most, alikeWith(f, kind, set, d));
        }
      }
      return most;
    }

    boolean fitsHearings(int facts) {
      for (int row = 0; row < hearings.size; row++) {
        boolean hears = courtHears(hearings.cell(row, HEARD_COURT), facts);
        if (hears != (hearings.cell(row, HEARD_IS) == 1)) {
          return false;
        }
      }
      return true;
    }

    private boolean fitsNotes(int f, int kind) {
      for (int row = 0; row < notes.size; row++) {
        if (notes.cell(row, NOTE_FICTION) == f
            && costAs(f, kind, notes.cell(row, NOTE_STEP)) != notes.cell(row, NOTE_PAID)) {
          return false;
        }
      }
      return true;
    }

    private int costAs(int f, int kind, int d) {
      return kindNumbered(kind).cost(fictions.cell(f, FEE), d);
    }

    private int alikeWith(int f, int kind, int set, int d) {
      int cost = costAs(f, kind, d);
      int many = 0;
      for (int other = 0; other < KINDS; other++) {
        if (holds(set, other) && costAs(f, other, d) == cost) {
          many++;
        }
      }
      return many;
    }

    private Plain kindNumbered(int kind) {
      if (kind < 0 || kind >= kinds.length) {
        return plain;
      }
      Plain found = kinds[kind];
      return found == null ? plain : found;
    }
  }

  /**
   * Rows of FICTIONS PLEADED from now on. Which ones are PLEADED tells the STEP and the FACTS,
   * whatever their order was, so sets of FICTIONS are looked at in place of rows.
   */
  private static final class Paths {
    // By set, to the COURT measured last: the least from it (NONE: it leads nowhere), and the
    // FICTION that the first least row pleads there (NONE: the row ends).
    final int[] rest;
    final int[] first;

    Paths() {
      rest = new int[FICTION_SETS];
      first = new int[FICTION_SETS];
    }

    int measure(Matter matter, int court, int what) {
      int start = matter.pleaded;
      // From the greatest set down, so that what is behind a set is known when it is reached.
      for (int set = allFictions(matter); set >= start; set--) {
        if ((set & start) == start) {
          settle(matter, court, what, set);
        }
      }
      return at(rest, start);
    }

    /** The i-th FICTION of the first least row to the COURT measured last. */
    int fictionAt(Matter matter, int i) {
      int set = matter.pleaded;
      for (int row = 0; row < MOST_FICTIONS; row++) {
        int f = at(first, set);
        if (f == NONE) {
          return NOT_SO_MANY;
        }
        if (row == i) {
          return f;
        }
        set |= 1 << f;
      }
      return NOT_SO_MANY;
    }

    int reachable(Matter matter) {
      int start = matter.pleaded;
      long reached = 1L << start;
      int found = 0;
      for (int set = start; set <= allFictions(matter); set++) {
        if ((reached >> set & 1L) == 1L) {
          int facts = matter.factsWith(set);
          found |= facts;
          reached |= setsBehind(matter, set, facts);
        }
      }
      return found;
    }

    private long setsBehind(Matter matter, int set, int facts) {
      int d = stepAt(matter, set);
      long behind = 0L;
      for (int f = 0; f < matter.fictions.size; f++) {
        if (!holds(set, f) && matter.allowed(f, facts, d)) {
          behind |= 1L << (set | 1 << f);
        }
      }
      return behind;
    }

    private void settle(Matter matter, int court, int what, int set) {
      int facts = matter.factsWith(set);
      // A row stands ahead of those that go on from it, though they may cost no more.
      if (matter.courtHears(court, facts)) {
        keep(set, 0, NONE);
        return;
      }
      int d = stepAt(matter, set);
      int least = NONE;
      int begins = NONE;
      for (int f = 0; f < matter.fictions.size; f++) {
        int behind = at(rest, set | 1 << f);
        if (!holds(set, f) && behind != NONE && matter.allowed(f, facts, d)) {
          int through = behind + (what == CHEAPEST ? matter.ownCost(f, d) : 1);
          if (least == NONE || through < least) {
            least = through;
            begins = f;
          }
        }
      }
      keep(set, least, begins);
    }

    private void keep(int set, int least, int begins) {
      if (set >= 0 && set < rest.length && set < first.length) {
        rest[set] = least;
        first[set] = begins;
      }
    }

    private static int at(int[] row, int set) {
      return set >= 0 && set < row.length ? row[set] : NONE;
    }

    private static int stepAt(Matter matter, int set) {
      return matter.steps + Integer.bitCount(set) - Integer.bitCount(matter.pleaded);
    }

    private static int allFictions(Matter matter) {
      return (1 << matter.fictions.size) - 1;
    }
  }

  /** THE TEXT, and how a BOOK is read from it, TOKEN by TOKEN. */
  private static final class BookText {
    private static final int END = 0, WRONG = 1, STOP = 2, NUMBER = 3;
    private static final int WORD_BOOK = 4, WORD_FICTION = 5, WORD_COURT = 6;

    final int[] bytes;
    int length;
    // The TOKEN at hand: what it is, where it begins, its number; and where the next is sought.
    private int token;
    private int place;
    private int number;
    private int next;
    // The ITEM at hand: its word (NONE: none has begun), how many numbers it has, what they told.
    private int word;
    private int numbers;
    private int kind;
    private int gives;
    private int fee;
    private int facts;

    BookText() {
      bytes = new int[MOST_BYTES];
    }

    boolean isFull() {
      return length >= MOST_BYTES;
    }

    void add(int c) {
      if (length >= 0 && length < bytes.length) {
        bytes[length] = c;
        length++;
      }
    }

    /** How many ITEMS, or what tells the FAULT: what the draft then holds is no BOOK. */
    int readInto(Matter draft) {
      draft.begin(0);
      next = 0;
      word = NONE;
      int items = 0;
      // A TOKEN has a byte at least, so that behind the most bytes there is only the end.
      for (int tokens = 0; tokens <= MOST_BYTES; tokens++) {
        advance();
        if (token == END || !takeToken(draft, items == 0)) {
          break;
        }
        if (token == STOP) {
          items++;
        }
      }
      boolean whole = token == END && word == NONE && items > 0;
      return whole ? items : FAULT_BASE - place;
    }

    private boolean takeToken(Matter draft, boolean first) {
      if (word == NONE) {
        return beginItem(draft, first);
      }
      if (token == STOP && numbers >= numbersAhead()) {
        endItem(draft);
        return true;
      }
      if (token == NUMBER && number <= mostHere()) {
        takeNumber();
        return true;
      }
      return false;
    }

    private boolean beginItem(Matter draft, boolean first) {
      boolean stands = first ? token == WORD_BOOK
          : token == WORD_FICTION && !draft.fictions.isFull()
          || token == WORD_COURT && !draft.courts.isFull();
      if (stands) {
        word = token;
        numbers = 0;
        facts = 0;
      }
      return stands;
    }

    /** How many numbers an ITEM of this word has ahead of its FACTS. */
    private int numbersAhead() {
      if (word == WORD_FICTION) {
        return 3;
      }
      return word == WORD_COURT ? 1 : 0;
    }

    private int mostHere() {
      if (word == WORD_FICTION && numbers == 0) {
        return KINDS - 1;
      }
      // A FEE is the last of those that stand ahead, whatever the word is.
      return numbers == numbersAhead() - 1 ? MOST_FEE : FACTS - 1;
    }

    private void takeNumber() {
      if (numbers >= numbersAhead()) {
        facts |= 1 << number;
      } else {
        kind = gives;
        gives = fee;
        fee = number;
      }
      numbers++;
    }

    private void endItem(Matter draft) {
      if (word == WORD_FICTION) {
        draft.fictions.add(kind, facts, gives, fee);
      } else if (word == WORD_COURT) {
        draft.courts.add(facts, fee, 0, 0);
      } else {
        draft.trueFacts = facts;
      }
      word = NONE;
    }

    private void advance() {
      while (next < length && byteAt(next) == ' ') {
        next++;
      }
      place = next;
      int c = byteAt(next);
      if (c == NONE) {
        token = END;
      } else if (isLetter(c)) {
        advanceOverWord();
      } else if (isFigure(c)) {
        advanceOverFigures();
      } else {
        next++;
        token = c == ';' ? STOP : WRONG;
      }
    }

    private void advanceOverWord() {
      while (next < length && isLetter(byteAt(next))) {
        next++;
      }
      if (standsThere("book")) {
        token = WORD_BOOK;
      } else if (standsThere("fiction")) {
        token = WORD_FICTION;
      } else if (standsThere("court")) {
        token = WORD_COURT;
      } else {
        token = WRONG;
      }
    }

    private void advanceOverFigures() {
      number = 0;
      while (next < length && isFigure(byteAt(next))) {
        // Behind two figures there is no number any more, so it need not grow.
        if (next - place < 2) {
          number = 10 * number + byteAt(next) - '0';
        }
        next++;
      }
      token = next - place <= 2 ? NUMBER : WRONG;
    }

    private boolean standsThere(String word) {
      if (next - place != word.length()) {
        return false;
      }
      for (int i = 0; i < word.length(); i++) {
        if (byteAt(place + i) != word.charAt(i)) {
          return false;
        }
      }
      return true;
    }

    private int byteAt(int at) {
      return at >= 0 && at < length && at < bytes.length ? bytes[at] : NONE;
    }

    private static boolean isLetter(int c) {
      return c >= 'a' && c <= 'z';
    }

    private static boolean isFigure(int c) {
      return c >= '0' && c <= '9';
    }
  }
}

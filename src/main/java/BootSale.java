/** A table at the boot sale: what is laid on it, who comes, what is sold. README.md tells how to use it. */
public final class BootSale {
  public static final int NONE = -1;

  private static final int BAD = -2;
  private static final int OTHER = -3;
  private static final int NOTHING = -4;
  private static final int STUCK = -5;
  private static final int FULL = -6;
  private static final int REFUSAL_KINDS = 5;
  /** Keeps a refusal apart from answers that may be below 0. */
  private static final int FAR = -1000000;
  /** Keeps the fault of a sale apart from the other refusals. */
  private static final int FAULT = -20;

  private static final int MOST_THINGS = 8;
  private static final int MOST_BUYERS = 24;
  private static final int MOST_BYTES = 250;
  private static final int MOST_ELEMENTS = 40;
  private static final int MOST_BY_ROW = 39;
  private static final int MOST_DRAWN = 8;
  private static final int MOST_PRICE = 99;
  private static final int MOST_DIGITS = 2;
  private static final int MOST_ROUNDS = 9;
  /** No gain is as low: eight things of nine feet, all left, with a tip of nine, are -648. */
  private static final int BELOW_GAINS = -1000;
  private static final int SHELVES = 8;
  private static final int HOURS = 7;
  private static final int NOON = 6;
  private static final int IN_THE_CAR = 7;

  private static final int KINDS = 6;
  private static final int THING = 0;
  private static final int SOUGHT = 1;
  private static final int DRAWING = 2;
  private static final int SMALL = 3;
  private static final int DOUBTFUL = 4;
  private static final int BOXED = 5;
  /** The kind that each kind is under; -1: none. */
  private static final int[] UNDER = {-1, 0, 0, 0, 1, 3};

  private static final int SORTS = 4;
  private static final int DEALER = 0;
  private static final int FAMILY = 1;
  private static final int LOOKER = 2;
  /** What each sort of buyer pays of the worth of a plain thing, in tenths. */
  private static final int[] TENTHS = {5, 6, 3, 2};

  private static final int KIND = 0;
  private static final int WORTH = 1;
  private static final int ROOM = 2;
  private static final int OWN = 3;
  private static final int A = 4;
  private static final int MARK = 5;
  private static final int FROM = 6;
  private static final int THING_CELLS = 7;
  private static final int[] THING_LEAST = {0, 1, 1, 0, 0, 0, 0};
  private static final int[] THING_MOST = {5, 99, 9, 99, 9, 99, 7};
  /** The cells of a thing that change() takes, by its 'what'. */
  private static final int[] CHANGED = {1, 3, 5, 6};

  private static final int HOUR = 0;
  private static final int SORT = 1;
  private static final int PURSE = 2;
  private static final int BUYER_CELLS = 3;
  private static final int[] BUYER_LEAST = {0, 0, 1};
  private static final int[] BUYER_MOST = {6, 3, 99};

  private static final int FEET = 0;
  private static final int FALL = 1;
  private static final int FRIEND = 2;
  private static final int TIP = 3;
  private static final int SETTINGS = 4;
  private static final int[] SETTING_LEAST = {1, 0, 0, 0};
  private static final int[] SETTING_MOST = {30, 14, 1, 9};

  private static final int BYTES = 0;
  private static final int SHORTS = 1;
  private static final int INTS = 2;
  private static final int LONGS = 3;
  private static final int BOOLEANS = 4;
  /** A shelf with a thing holds this and the thing's number. */
  private static final int HOLDS_THING = 10;

  private static final int END = 0;
  private static final int WORD = 1;
  private static final int NUMBER = 2;
  private static final int SIGN = 3;
  private static final int STRANGE = 4;

  private final Stall stall = new Stall();
  private final Stall kept = new Stall();
  private boolean wasKept;
  private final Trials trials = new Trials();
  private final Tape tape = new Tape();
  private final Shelf[] shelves = new Shelf[SHELVES];
  private final int[] refusals = new int[REFUSAL_KINDS];

  public BootSale() {
    for (int s = 0; s < SHELVES; s++) {
      shelves[s] = new Shelf();
    }
  }

  public int row(int s, int sort, int n) {
    if (!isShelf(s) || !isIn(sort, BYTES, BOOLEANS) || !isIn(n, 0, MOST_ELEMENTS)) {
      return refuse(BAD);
    }
    shelves[s].takeRow(sort, n);
    return 1;
  }

  public int set(int s, int i, long v) {
    int wrong = rowRefusal(s);
    if (wrong != 0) {
      return refuse(wrong);
    }
    if (!isIn(i, 0, shelves[s].size - 1)) {
      return refuse(BAD);
    }
    shelves[s].elements[i] = shelves[s].lowestBits(v);
    return 1;
  }

  public int copy(int p, int q, int i, int j, int n) {
    if (!isShelf(p) || !isShelf(q)) {
      return refuse(BAD);
    }
    Shelf source = shelves[p];
    Shelf target = shelves[q];
    boolean bothRows = source.isRow() && target.isRow();
    if (source.isThing() || target.isThing() || bothRows && source.holds != target.holds) {
      return refuse(OTHER);
    }
    if (!bothRows) {
      return refuse(NOTHING);
    }
    // n is known to be 0 to 40 before it is taken away, so nothing can wrap
    if (!isIn(n, 0, MOST_ELEMENTS) || !isIn(i, 0, source.size - n) || !isIn(j, 0, target.size - n)) {
      return refuse(BAD);
    }
    System.arraycopy(source.elements, i, target.elements, j, n);
    return n;
  }

  public long element(int s, int i) {
    if (!isShelf(s) || !shelves[s].isRow() || !isIn(i, 0, shelves[s].size - 1)) {
      return 0L;
    }
    return shelves[s].elements[i];
  }

  public int holds(int s) {
    return isShelf(s) ? shelves[s].holds : NONE;
  }

  public int show(int s, int thing) {
    if (!isShelf(s) || thing != NONE && !isThing(thing)) {
      return refuse(BAD);
    }
    shelves[s].holds = thing == NONE ? NONE : HOLDS_THING + thing;
    return 1;
  }

  public int says(int s, int kind) {
    if (!isShelf(s) || !isIn(kind, THING, BOXED)) {
      return refuse(BAD);
    }
    if (shelves[s].isEmpty()) {
      return refuse(NOTHING);
    }
    int thing = shelves[s].holds - HOLDS_THING;
    if (!isThing(thing) || !isUnder(stall.things[thing][KIND], kind)) {
      return refuse(OTHER);
    }
    return saysAs(kind, stall.things[thing]);
  }

  public int thing(int kind, int worth, int room, int own, int a) {
    if (!isCell(KIND, kind) || !isCell(WORTH, worth) || !isCell(ROOM, room)
        || !isCell(OWN, own) || !isCell(A, a)) {
      return refuse(BAD);
    }
    if (stall.thingCount >= MOST_THINGS) {
      return refuse(FULL);
    }
    return stall.addThing(kind, worth, room, own, a);
  }

  public int buyer(int hour, int sort, int purse) {
    if (!isBuyerCell(HOUR, hour) || !isBuyerCell(SORT, sort) || !isBuyerCell(PURSE, purse)) {
      return refuse(BAD);
    }
    if (stall.buyerCount >= MOST_BUYERS) {
      return refuse(FULL);
    }
    return stall.addBuyer(hour, sort, purse);
  }

  public int buyers(int s, int n) {
    if (!isShelf(s) || !isIn(n, BUYER_CELLS, MOST_BY_ROW) || n % BUYER_CELLS != 0) {
      return refuse(BAD);
    }
    int wrong = rowRefusal(s);
    if (wrong != 0) {
      return refuse(wrong);
    }
    Shelf row = shelves[s];
    if (row.size < n || !areBuyers(row.elements, n)) {
      return refuse(BAD);
    }
    if (stall.buyerCount + n / BUYER_CELLS > MOST_BUYERS) {
      return refuse(FULL);
    }
    for (int i = 0; i + PURSE < n; i += BUYER_CELLS) {
      stall.addBuyer((int) row.elements[i], (int) row.elements[i + SORT], (int) row.elements[i + PURSE]);
    }
    return stall.buyerCount;
  }

  public int change(int thing, int what, int v) {
    if (!isThing(thing) || !isIn(what, 0, CHANGED.length - 1) || !isCell(CHANGED[what], v)) {
      return refuse(BAD);
    }
    int was = stall.things[thing][CHANGED[what]];
    stall.things[thing][CHANGED[what]] = v;
    return was;
  }

  public int ask(int what, int v) {
    if (!isIn(what, FEET, TIP) || !isIn(v, SETTING_LEAST[what], SETTING_MOST[what])) {
      return refuse(BAD);
    }
    int was = stall.settings[what];
    stall.settings[what] = v;
    return was;
  }

  public int feed(int letter) {
    if (!isIn(letter, 0, 255)) {
      return refuse(BAD);
    }
    if (tape.size >= MOST_BYTES) {
      return refuse(FULL);
    }
    tape.bytes[tape.size] = letter;
    tape.size++;
    return tape.size;
  }

  public int wipe() {
    int was = tape.size;
    tape.size = 0;
    return was;
  }

  public int sale() {
    trials.stall.become(stall);
    int statements = tape.readSale(trials.stall);
    tape.size = 0;
    if (statements <= FAULT) {
      refuse(BAD);
      return statements;
    }
    stall.become(trials.stall);
    return statements;
  }

  public int thingOf(int thing, int what) {
    if (!isThing(thing) || !isIn(what, KIND, FROM)) {
      return refuse(BAD);
    }
    return stall.things[thing][what];
  }

  public int buyerOf(int place, int what) {
    if (!isPlace(place) || !isIn(what, HOUR, PURSE)) {
      return refuse(BAD);
    }
    return stall.buyers[place][what];
  }

  public int price(int thing, int hour) {
    if (!isThing(thing) || !isIn(hour, 0, NOON)) {
      return refuse(BAD);
    }
    return stall.priceOf(thing, hour);
  }

  public int on(int hour) {
    if (!isIn(hour, 0, NOON)) {
      return refuse(BAD);
    }
    return stall.layOut(hour, 0);
  }

  public int pays(int sort, int thing, int drawn) {
    if (!isIn(sort, 0, SORTS - 1) || !isThing(thing) || !isIn(drawn, 0, MOST_DRAWN)) {
      return refuse(BAD);
    }
    int[] t = stall.things[thing];
    return payFor(sort, t[KIND], t[WORTH], t[A], drawn);
  }

  public int buys(int place) {
    if (!isPlace(place)) {
      return refuse(BAD);
    }
    return asItIs().boughtBy[place];
  }

  public int comes(int place) {
    if (!isPlace(place)) {
      return refuse(BAD);
    }
    return asItIs().hasCome(place) ? 1 : 0;
  }

  public int who(int thing) {
    if (!isThing(thing)) {
      return refuse(BAD);
    }
    return asItIs().soldTo[thing];
  }

  public int taken() {
    return asItIs().taken;
  }

  public int left() {
    return asItIs().left;
  }

  public int home() {
    return asItIs().home;
  }

  public int gain() {
    return trials.gainOf(stall);
  }

  public int bestMark(int thing) {
    if (!isThing(thing)) {
      return refuse(BAD);
    }
    trials.start(stall);
    return trials.bestMarkOf(thing);
  }

  public int bestFall() {
    trials.start(stall);
    return trials.bestSetting(FALL);
  }

  public int bestFrom(int thing) {
    if (!isThing(thing)) {
      return refuse(BAD);
    }
    trials.start(stall);
    return trials.bestFromOf(thing);
  }

  public int table() {
    trials.start(stall);
    return trials.bestSet();
  }

  public int feet() {
    trials.start(stall);
    return trials.bestSetting(FEET);
  }

  public int marked(int thing) {
    if (thing != NONE && !isThing(thing)) {
      return refuseFar(BAD);
    }
    trials.start(stall);
    trials.markAll();
    return thing == NONE ? trials.gainNow() : trials.stall.things[thing][MARK];
  }

  public int offer(int place, int thing, int v) {
    if (!isIn(v, 0, MOST_PRICE)) {
      return refuse(BAD);
    }
    int wrong = offerRefusal(place, thing);
    if (wrong != 0) {
      return refuse(wrong);
    }
    return leastWorthTaking(place, thing) <= v ? 1 : 0;
  }

  public int least(int place, int thing) {
    int wrong = offerRefusal(place, thing);
    if (wrong != 0) {
      return refuse(wrong);
    }
    int least = leastWorthTaking(place, thing);
    return least <= MOST_PRICE ? least : NONE;
  }

  public int rain(int hour) {
    if (!isIn(hour, 0, NOON)) {
      return refuseFar(BAD);
    }
    int dry = trials.gainOf(stall);
    trials.stall.sendHomeFrom(hour);
    return dry - trials.gainNow();
  }

  public int neighbour(int thing, int p, int what) {
    if (!isThing(thing) || !isIn(p, 0, MOST_PRICE) || !isIn(what, 0, 1)) {
      return refuseFar(BAD);
    }
    int alone = trials.gainOf(stall);
    trials.morning.capPay(thing, p);
    return what == 0 ? alone - trials.gainNow() : trials.bestMarkOf(thing);
  }

  public int quick(int kind, int a, int v) {
    if (!isCell(KIND, kind) || !isCell(A, a) || !isIn(v, 0, MOST_PRICE)) {
      return refuse(BAD);
    }
    for (int worth = THING_LEAST[WORTH]; worth <= THING_MOST[WORTH]; worth++) {
      if (payFor(DEALER, kind, worth, a, drawnAlone(kind)) >= v) {
        return worth;
      }
    }
    return NONE;
  }

  public int worthy(int thing) {
    if (!isThing(thing)) {
      return refuseFar(BAD);
    }
    return worthOnTable(thing);
  }

  public int swap(int thing, int other) {
    if (!isThing(thing) || !isThing(other)) {
      return refuse(BAD);
    }
    if (thing == other) {
      return 0;
    }
    stall.swapThings(thing, other);
    for (int s = 0; s < SHELVES; s++) {
      if (shelves[s].holds == HOLDS_THING + thing) {
        shelves[s].holds = HOLDS_THING + other;
      } else if (shelves[s].holds == HOLDS_THING + other) {
        shelves[s].holds = HOLDS_THING + thing;
      }
    }
    return 1;
  }

  public int ahead(int thing) {
    if (!isThing(thing)) {
      return refuseFar(BAD);
    }
    int before = trials.gainOf(stall);
    trials.stall.moveThing(thing, 0);
    return trials.gainAnew() - before;
  }

  public int dearest() {
    if (stall.thingCount == 0) {
      return refuse(STUCK);
    }
    int best = 0;
    int most = worthOnTable(0);
    for (int thing = 1; thing < stall.thingCount; thing++) {
      int worth = worthOnTable(thing);
      if (worth > most) {
        most = worth;
        best = thing;
      }
    }
    return best;
  }

  public int hour() {
    int[] takenIn = asItIs().takenIn;
    int best = 0;
    for (int hour = 1; hour < HOURS; hour++) {
      if (takenIn[hour] > takenIn[best]) {
        best = hour;
      }
    }
    return best;
  }

  public int judge(int s) {
    int wrong = marksRefusal(s);
    if (wrong != 0) {
      return refuse(wrong);
    }
    return firstWrongMark(shelves[s]);
  }

  public int told(int s) {
    int wrong = goodMarksRefusal(s);
    if (wrong != 0) {
      return refuseFar(wrong);
    }
    trials.start(stall);
    trials.stall.putMarks(shelves[s].elements);
    return trials.gainNow();
  }

  public int marks(int s) {
    int wrong = goodMarksRefusal(s);
    if (wrong != 0) {
      return refuse(wrong);
    }
    stall.putMarks(shelves[s].elements);
    return stall.thingCount;
  }

  public int morning() {
    Morning morning = asItIs();
    int gain = morning.gain;
    stall.coin += gain;
    stall.mornings++;
    stall.buyerCount = 0;
    // from the last on, so that the numbers still to come stay as they are
    for (int thing = stall.thingCount - 1; thing >= 0; thing--) {
      if (!isBit(morning.left, thing)) {
        stall.removeThing(thing);
        takeFromShelves(thing);
      }
    }
    return gain;
  }

  public int draw(int n) {
    if (!isIn(n, 1, MOST_BUYERS)) {
      return refuse(BAD);
    }
    int come = 0;
    while (come < n && stall.buyerCount < MOST_BUYERS) {
      int hour = stall.drawBelow(HOURS);
      int sort = stall.drawBelow(SORTS);
      int purse = stall.drawBelow(60) + 1;
      stall.addBuyer(hour, sort, purse);
      come++;
    }
    return come;
  }

  public int sum(int what) {
    if (what == 0) {
      return columnSum(stall.things, stall.thingCount, WORTH);
    }
    if (what == 1) {
      return columnSum(stall.buyers, stall.buyerCount, PURSE);
    }
    return refuse(BAD);
  }

  public int clear() {
    int was = stall.buyerCount;
    stall.buyerCount = 0;
    return was;
  }

  public int seed(int v) {
    int was = stall.seed;
    stall.seed = v;
    return was;
  }

  public int image() {
    kept.become(stall);
    wasKept = true;
    return 1;
  }

  public int back() {
    if (!wasKept) {
      return refuse(STUCK);
    }
    stall.become(kept);
    for (int s = 0; s < SHELVES; s++) {
      if (shelves[s].isThing()) {
        shelves[s].holds = NONE;
      }
    }
    return 1;
  }

  public int status(int what) {
    switch (what) {
      case 0: return stall.thingCount;
      case 1: return stall.buyerCount;
      case 2: return stall.settings[FEET];
      case 3: return stall.settings[FALL];
      case 4: return stall.settings[FRIEND];
      case 5: return stall.settings[TIP];
      case 6: return stall.coin;
      case 7: return stall.mornings;
      case 8: return tape.size;
      case 9: return stall.seed;
      case 10: return fullShelves();
      default: return isIn(what, 12, 16) ? refusals[what - 12] : NONE;
    }
  }

  private int refuse(int refusal) {
    int which = BAD - refusal;
    if (isIn(which, 0, REFUSAL_KINDS - 1)) {
      refusals[which]++;
    }
    return refusal;
  }

  private int refuseFar(int refusal) {
    return FAR + refuse(refusal);
  }

  private boolean isShelf(int s) {
    return isIn(s, 0, SHELVES - 1);
  }

  private boolean isThing(int thing) {
    return isIn(thing, 0, stall.thingCount - 1);
  }

  private boolean isPlace(int place) {
    return isIn(place, 0, stall.buyerCount - 1);
  }

  /** What is to be refused where a shelf must hold a row; 0: nothing. */
  private int rowRefusal(int s) {
    if (!isShelf(s)) {
      return BAD;
    }
    if (shelves[s].isThing()) {
      return OTHER;
    }
    return shelves[s].isRow() ? 0 : NOTHING;
  }

  /** What is to be refused where a shelf must hold an element for each thing; 0: nothing. */
  private int marksRefusal(int s) {
    int wrong = rowRefusal(s);
    if (wrong != 0) {
      return wrong;
    }
    return shelves[s].size < stall.thingCount ? BAD : 0;
  }

  private int goodMarksRefusal(int s) {
    int wrong = marksRefusal(s);
    if (wrong != 0) {
      return wrong;
    }
    return firstWrongMark(shelves[s]) == NONE ? 0 : STUCK;
  }

  private int firstWrongMark(Shelf row) {
    for (int thing = 0; thing < stall.thingCount; thing++) {
      long mark = row.elements[thing];
      if (mark < THING_LEAST[MARK] || mark > THING_MOST[MARK]) {
        return thing;
      }
    }
    return NONE;
  }

  /** What is to be refused of an offer, whatever is offered; 0: nothing. */
  private int offerRefusal(int place, int thing) {
    if (!isPlace(place) || !isThing(thing)) {
      return BAD;
    }
    Morning morning = asItIs();
    return morning.hasCome(place) && isBit(morning.onAt[place], thing) ? 0 : STUCK;
  }

  /**
   * The least that is worth taking, perhaps above what may be offered: what is
   * offered adds to the gain and alters nothing else of the morning.
   */
  private int leastWorthTaking(int place, int thing) {
    int refused = trials.gainOf(stall);
    int givenAway = trials.gainGiven(place, thing);
    return Math.max(0, refused - givenAway + 1);
  }

  private int worthOnTable(int thing) {
    int with = trials.gainOf(stall);
    trials.stall.removeThing(thing);
    return with - trials.gainAnew();
  }

  private Morning asItIs() {
    trials.gainOf(stall);
    return trials.morning;
  }

  private void takeFromShelves(int thing) {
    for (int s = 0; s < SHELVES; s++) {
      if (shelves[s].holds == HOLDS_THING + thing) {
        shelves[s].holds = NONE;
      } else if (shelves[s].holds > HOLDS_THING + thing) {
        shelves[s].holds--;
      }
    }
  }

  private int fullShelves() {
    int full = 0;
    for (int s = 0; s < SHELVES; s++) {
      if (!shelves[s].isEmpty()) {
        full++;
      }
    }
    return full;
  }

  private static boolean isIn(int v, int least, int most) {
    return v >= least && v <= most;
  }

  private static boolean isCell(int cell, int v) {
    return isIn(v, THING_LEAST[cell], THING_MOST[cell]);
  }

  private static boolean isBuyerCell(int cell, int v) {
    return isIn(v, BUYER_LEAST[cell], BUYER_MOST[cell]);
  }

  private static boolean areBuyers(long[] elements, int n) {
    for (int i = 0; i < n; i++) {
      int cell = i % BUYER_CELLS;
      if (elements[i] < BUYER_LEAST[cell] || elements[i] > BUYER_MOST[cell]) {
        return false;
      }
    }
    return true;
  }

  private static boolean isBit(int bits, int place) {
    return (bits >> place & 1) != 0;
  }

  private static int columnSum(int[][] rows, int count, int cell) {
    int sum = 0;
    for (int i = 0; i < count; i++) {
      sum += rows[i][cell];
    }
    return sum;
  }

  /** Whether a kind is another, or under it. */
  private static boolean isUnder(int kind, int above) {
    int now = kind;
    for (int step = 0; step < KINDS && now >= THING && now <= BOXED; step++) {
      if (now == above) {
        return true;
      }
      now = UNDER[now];
    }
    return false;
  }

  /** How many drawing things lie on a table that holds one of this kind alone. */
  private static int drawnAlone(int kind) {
    return kind == DRAWING ? 1 : 0;
  }

  private static int saysAs(int kind, int[] thing) {
    if (kind == THING) {
      return thing[WORTH];
    }
    if (kind == DRAWING) {
      return 1;
    }
    int sort = isUnder(kind, SOUGHT) ? DEALER : FAMILY;
    return payFor(sort, thing[KIND], thing[WORTH], thing[A], drawnAlone(thing[KIND]));
  }

  private static int payFor(int sort, int kind, int worth, int a, int drawn) {
    int pay = worth * TENTHS[sort] / 10 + drawn;
    if (sort == DEALER && isUnder(kind, SOUGHT)) {
      pay = worth * 9 / 10;
    }
    if (sort == FAMILY && isUnder(kind, SMALL)) {
      pay = worth;
    }
    if (kind == DRAWING) {
      pay--;
    }
    if (kind == DOUBTFUL) {
      pay = pay * (10 - a) / 10;
    }
    if (kind == BOXED) {
      pay = Math.min(pay, a);
    }
    return Math.max(pay, 0);
  }

  /** What a shelf holds; its elements are made once and used by every row that comes to it. */
  private static final class Shelf {
    int holds = NONE;
    int size;
    final long[] elements = new long[MOST_ELEMENTS];

    boolean isEmpty() {
      return holds == NONE;
    }

    boolean isRow() {
      return isIn(holds, BYTES, BOOLEANS);
    }

    boolean isThing() {
      return holds >= HOLDS_THING;
    }

    void takeRow(int sort, int n) {
      holds = sort;
      size = n;
      for (int i = 0; i < MOST_ELEMENTS; i++) {
        elements[i] = 0L;
      }
    }

    long lowestBits(long v) {
      switch (holds) {
        case BYTES: return (byte) v;
        case SHORTS: return (short) v;
        case INTS: return (int) v;
        case LONGS: return v;
        default: return v != 0L ? 1L : 0L;
      }
    }
  }

  /** All that an image keeps: the things, the buyers, what is asked, and what came of it. */
  private static final class Stall {
    final int[][] things = new int[MOST_THINGS][THING_CELLS];
    int thingCount;
    final int[][] buyers = new int[MOST_BUYERS][BUYER_CELLS];
    int buyerCount;
    final int[] settings = {9, 0, 0, 1};
    int coin;
    int mornings;
    int seed = 1;

    void become(Stall other) {
      thingCount = other.thingCount;
      for (int i = 0; i < thingCount; i++) {
        System.arraycopy(other.things[i], 0, things[i], 0, THING_CELLS);
      }
      buyerCount = other.buyerCount;
      for (int i = 0; i < buyerCount; i++) {
        System.arraycopy(other.buyers[i], 0, buyers[i], 0, BUYER_CELLS);
      }
      System.arraycopy(other.settings, 0, settings, 0, SETTINGS);
      coin = other.coin;
      mornings = other.mornings;
      seed = other.seed;
    }

    /** The number of the new thing; NONE if there is no room for it. */
    int addThing(int kind, int worth, int room, int own, int a) {
      if (thingCount >= MOST_THINGS) {
        return NONE;
      }
      int[] thing = things[thingCount];
      thing[KIND] = kind;
      thing[WORTH] = worth;
      thing[ROOM] = room;
      thing[OWN] = own;
      thing[A] = a;
      thing[MARK] = worth;
      thing[FROM] = 0;
      thingCount++;
      return thingCount - 1;
    }

    /** The place of the new buyer; NONE if there is no room for it. */
    int addBuyer(int hour, int sort, int purse) {
      if (buyerCount >= MOST_BUYERS) {
        return NONE;
      }
      int[] buyer = buyers[buyerCount];
      buyer[HOUR] = hour;
      buyer[SORT] = sort;
      buyer[PURSE] = purse;
      int place = buyerCount;
      while (place > 0 && buyers[place - 1][HOUR] > hour) {
        buyers[place] = buyers[place - 1];
        place--;
      }
      buyers[place] = buyer;
      buyerCount++;
      return place;
    }

    /** The thing comes to another number; those between move up or down by one. */
    void moveThing(int from, int to) {
      int[] thing = things[from];
      for (int i = from; i < to; i++) {
        things[i] = things[i + 1];
      }
      for (int i = from; i > to; i--) {
        things[i] = things[i - 1];
      }
      things[to] = thing;
    }

    void removeThing(int thing) {
      moveThing(thing, thingCount - 1);
      thingCount--;
    }

    void swapThings(int thing, int other) {
      int[] kept = things[thing];
      things[thing] = things[other];
      things[other] = kept;
    }

    /** All buyers of this hour and of those behind it go; they stand at the end of the list. */
    void sendHomeFrom(int hour) {
      while (buyerCount > 0 && buyers[buyerCount - 1][HOUR] >= hour) {
        buyerCount--;
      }
    }

    void putMarks(long[] marks) {
      for (int thing = 0; thing < thingCount && thing < marks.length; thing++) {
        things[thing][MARK] = (int) marks[thing];
      }
    }

    int priceOf(int thing, int hour) {
      int own = things[thing][OWN];
      if (hour == NOON) {
        return own;
      }
      int mark = things[thing][MARK];
      return Math.max(own, mark - mark * settings[FALL] * hour / 100);
    }

    /** The things (bits) that are on in an hour when those in 'sold' (bits) are gone. */
    int layOut(int hour, int sold) {
      int on = 0;
      int free = settings[FEET];
      for (int thing = 0; thing < thingCount; thing++) {
        int[] t = things[thing];
        if (t[FROM] <= hour && !isBit(sold, thing) && t[ROOM] <= free) {
          free -= t[ROOM];
          on |= 1 << thing;
        }
      }
      return on;
    }

    /** A number from 0 on, below n; n is 1 at least. */
    int drawBelow(int n) {
      seed = seed * 1103515245 + 12345;
      return n < 1 ? 0 : (seed >>> 16) % n;
    }
  }

  /** One morning gone through from six to noon; nothing of the stall is changed by it. */
  private static final class Morning {
    final int[] soldTo = new int[MOST_THINGS];
    final int[] boughtBy = new int[MOST_BUYERS];
    final int[] onAt = new int[MOST_BUYERS];
    final int[] takenIn = new int[HOURS];
    int taken;
    int left;
    int home;
    int gain;
    private Stall stall;
    /** What is paid, by sort, thing and how many are drawing: it stays so however often the morning is tried. */
    private final int[] pay = new int[SORTS * MOST_THINGS * (MOST_DRAWN + 1)];
    private final int[] prices = new int[MOST_THINGS];
    private int drawing;
    private int came;
    private int sold;
    private int on;
    private int givenBy = NONE;
    private int given = NONE;

    /** Takes the stall whose mornings go by; its marks, hours and settings may change after that. */
    void prepare(Stall of) {
      stall = of;
      givenBy = NONE;
      drawing = 0;
      for (int thing = 0; thing < of.thingCount; thing++) {
        if (of.things[thing][KIND] == DRAWING) {
          drawing |= 1 << thing;
        }
      }
      int mostDrawn = Integer.bitCount(drawing);
      for (int thing = 0; thing < of.thingCount; thing++) {
        int[] t = of.things[thing];
        for (int sort = 0; sort < SORTS; sort++) {
          for (int drawn = 0; drawn <= mostDrawn; drawn++) {
            pay[payPlace(sort, thing, drawn)] = payFor(sort, t[KIND], t[WORTH], t[A], drawn);
          }
        }
      }
    }

    private static int payPlace(int sort, int thing, int drawn) {
      return (sort * MOST_THINGS + thing) * (MOST_DRAWN + 1) + drawn;
    }

    /** Nobody pays more than p for the thing, till the next prepare(). */
    void capPay(int thing, int p) {
      for (int sort = 0; sort < SORTS; sort++) {
        for (int drawn = 0; drawn <= MOST_DRAWN; drawn++) {
          int place = payPlace(sort, thing, drawn);
          pay[place] = Math.min(pay[place], p);
        }
      }
    }

    /** The buyer at a place gets the thing for nothing, and buys nothing else, till the next prepare(). */
    void give(int place, int thing) {
      givenBy = place;
      given = thing;
    }

    boolean hasCome(int place) {
      return isBit(came, place);
    }

    boolean isSoldBeforeNoon(int thing) {
      int place = soldTo[thing];
      return stall != null && place != NONE && stall.buyers[place][HOUR] < NOON;
    }

    void goBy() {
      if (stall == null) {
        return;
      }
      open();
      int hour = NONE;
      boolean justBought = false;
      for (int place = 0; place < stall.buyerCount; place++) {
        int[] buyer = stall.buyers[place];
        if (buyer[HOUR] != hour) {
          hour = buyer[HOUR];
          nextHour(hour);
        }
        justBought = serve(place, buyer, justBought);
        if (justBought) {
          on = stall.layOut(hour, sold);
        }
      }
      close();
    }

    private void open() {
      taken = 0;
      came = 0;
      sold = 0;
      on = 0;
      for (int thing = 0; thing < MOST_THINGS; thing++) {
        soldTo[thing] = NONE;
      }
      for (int hour = 0; hour < HOURS; hour++) {
        takenIn[hour] = 0;
      }
    }

    private void nextHour(int hour) {
      for (int thing = 0; thing < stall.thingCount; thing++) {
        prices[thing] = stall.priceOf(thing, hour);
      }
      on = stall.layOut(hour, sold);
    }

    /** Whether the buyer came and bought. */
    private boolean serve(int place, int[] buyer, boolean aheadBought) {
      onAt[place] = on;
      boughtBy[place] = NONE;
      if (buyer[SORT] == LOOKER && stall.settings[FRIEND] == 0 && !aheadBought) {
        return false;
      }
      came |= 1 << place;
      boolean isGiven = place == givenBy;
      int thing = isGiven ? given : choice(buyer);
      if (!isIn(thing, 0, MOST_THINGS - 1)) {
        return false;
      }
      int paid = isGiven ? 0 : prices[thing];
      boughtBy[place] = thing;
      soldTo[thing] = place;
      sold |= 1 << thing;
      taken += paid;
      takenIn[buyer[HOUR]] += paid;
      return true;
    }

    private int choice(int[] buyer) {
      int drawn = Integer.bitCount(on & drawing);
      int best = NONE;
      int most = -1;
      for (int thing = 0; thing < stall.thingCount; thing++) {
        if (isBit(on, thing) && prices[thing] <= buyer[PURSE]) {
          int over = pay[payPlace(buyer[SORT], thing, drawn)] - prices[thing];
          if (over > most) {
            most = over;
            best = thing;
          }
        }
      }
      return best;
    }

    private void close() {
      left = 0;
      home = 0;
      for (int thing = 0; thing < stall.thingCount; thing++) {
        if (!isBit(sold, thing)) {
          left |= 1 << thing;
          home += stall.settings[TIP] * stall.things[thing][ROOM];
        }
      }
      gain = taken - home;
    }
  }

  /** Mornings tried on a copy of the stall, so that the stall itself stays as it is. */
  private static final class Trials {
    final Stall stall = new Stall();
    final Morning morning = new Morning();

    void start(Stall real) {
      stall.become(real);
      morning.prepare(stall);
    }

    int gainNow() {
      morning.goBy();
      return morning.gain;
    }

    int gainOf(Stall real) {
      start(real);
      morning.goBy();
      return morning.gain;
    }

    /** The gain when things of the copy have come to other numbers, or gone. */
    int gainAnew() {
      morning.prepare(stall);
      morning.goBy();
      return morning.gain;
    }

    int gainGiven(int place, int thing) {
      morning.give(place, thing);
      return gainNow();
    }

    /** The least value of a cell with the greatest gain; the cell stays as it is. */
    private int bestValue(int[] cells, int cell, int least, int most) {
      int was = cells[cell];
      int best = least;
      int greatest = BELOW_GAINS;
      for (int v = least; v <= most; v++) {
        cells[cell] = v;
        int gain = gainNow();
        if (gain > greatest) {
          greatest = gain;
          best = v;
        }
      }
      cells[cell] = was;
      return best;
    }

    int bestSetting(int what) {
      return bestValue(stall.settings, what, SETTING_LEAST[what], SETTING_MOST[what]);
    }

    int bestFromOf(int thing) {
      return bestValue(stall.things[thing], FROM, THING_LEAST[FROM], THING_MOST[FROM]);
    }

    /**
     * As bestValue, but without the marks that can't differ from one tried:
     * up to OWN the price is OWN, and what stays unsold till noon at one mark
     * stays so at every higher one, for till then a price never falls by a
     * higher mark, and at noon it is OWN.
     */
    int bestMarkOf(int thing) {
      int[] cells = stall.things[thing];
      int was = cells[MARK];
      int best = 0;
      int greatest = BELOW_GAINS;
      boolean mayDiffer = true;
      for (int mark = 0; mark <= MOST_PRICE && mayDiffer; mark = Math.max(mark, cells[OWN]) + 1) {
        cells[MARK] = mark;
        int gain = gainNow();
        if (gain > greatest) {
          greatest = gain;
          best = mark;
        }
        mayDiffer = morning.isSoldBeforeNoon(thing);
      }
      cells[MARK] = was;
      return best;
    }

    /** Of all sets of things that are on from 0, the others in the car, the best; the copy is used up by it. */
    int bestSet() {
      int best = 0;
      int greatest = BELOW_GAINS;
      for (int bits = 0; bits < 1 << stall.thingCount; bits++) {
        for (int thing = 0; thing < stall.thingCount; thing++) {
          stall.things[thing][FROM] = isBit(bits, thing) ? 0 : IN_THE_CAR;
        }
        int gain = gainNow();
        if (gain > greatest) {
          greatest = gain;
          best = bits;
        }
      }
      return best;
    }

    void markAll() {
      boolean changed = true;
      for (int round = 0; round < MOST_ROUNDS && changed; round++) {
        changed = false;
        for (int thing = 0; thing < stall.thingCount; thing++) {
          int mark = bestMarkOf(thing);
          if (mark != stall.things[thing][MARK]) {
            stall.things[thing][MARK] = mark;
            changed = true;
          }
        }
      }
    }
  }

  /** The bytes that are fed, and the reader of a sale. */
  private static final class Tape {
    final int[] bytes = new int[MOST_BYTES];
    int size;
    private int token;
    private int place;
    private int behind;
    private int value;
    private final int[] numbers = new int[THING_CELLS];

    /**
     * How many statements there are, all done to the stall; or FAULT less the
     * place of the token that can't stand there, the stall then half done.
     */
    int readSale(Stall stall) {
      behind = 0;
      next();
      for (int statements = 1; statements <= size; statements++) {
        if (!readStatement(stall)) {
          return FAULT - place;
        }
        if (token == END) {
          return statements;
        }
        if (token != SIGN) {
          return FAULT - place;
        }
        next();
      }
      return FAULT - place;
    }

    private boolean readStatement(Stall stall) {
      if (isWord("thing")) {
        return readThing(stall);
      }
      if (isWord("buyer")) {
        return readBuyer(stall);
      }
      if (isWord("mark")) {
        return readCell(stall, MARK);
      }
      if (isWord("from")) {
        return readCell(stall, FROM);
      }
      if (isWord("feet")) {
        return readSetting(stall, FEET);
      }
      if (isWord("fall")) {
        return readSetting(stall, FALL);
      }
      if (isWord("friend")) {
        return readSetting(stall, FRIEND);
      }
      return isWord("tip") && readSetting(stall, TIP);
    }

    private boolean readThing(Stall stall) {
      if (stall.thingCount >= MOST_THINGS) {
        return false;
      }
      next();
      for (int cell = KIND; cell <= OWN; cell++) {
        if (!readNumber(THING_LEAST[cell], THING_MOST[cell])) {
          return false;
        }
        numbers[cell] = value;
        next();
      }
      numbers[A] = 0;
      if (isWord("with")) {
        next();
        if (!readNumber(THING_LEAST[A], THING_MOST[A])) {
          return false;
        }
        numbers[A] = value;
        next();
      }
      stall.addThing(numbers[KIND], numbers[WORTH], numbers[ROOM], numbers[OWN], numbers[A]);
      return true;
    }

    private boolean readBuyer(Stall stall) {
      if (stall.buyerCount >= MOST_BUYERS) {
        return false;
      }
      next();
      for (int cell = HOUR; cell <= PURSE; cell++) {
        if (!readNumber(BUYER_LEAST[cell], BUYER_MOST[cell])) {
          return false;
        }
        numbers[cell] = value;
        next();
      }
      stall.addBuyer(numbers[HOUR], numbers[SORT], numbers[PURSE]);
      return true;
    }

    private boolean readCell(Stall stall, int cell) {
      next();
      if (!readNumber(0, stall.thingCount - 1)) {
        return false;
      }
      int thing = value;
      next();
      if (!readNumber(THING_LEAST[cell], THING_MOST[cell])) {
        return false;
      }
      stall.things[thing][cell] = value;
      next();
      return true;
    }

    private boolean readSetting(Stall stall, int what) {
      next();
      if (!readNumber(SETTING_LEAST[what], SETTING_MOST[what])) {
        return false;
      }
      stall.settings[what] = value;
      next();
      return true;
    }

    /** Whether the token is a number of this range; the token stays, so that a fault tells its place. */
    private boolean readNumber(int least, int most) {
      return token == NUMBER && behind - place <= MOST_DIGITS && isIn(value, least, most);
    }

    private boolean isWord(String word) {
      if (token != WORD || behind - place != word.length()) {
        return false;
      }
      for (int i = 0; i < word.length() && place + i < size; i++) {
        if (bytes[place + i] != word.charAt(i)) {
          return false;
        }
      }
      return true;
    }

    /** The token becomes the one behind it, as long as can be. */
    private void next() {
      place = behind;
      while (place < size && bytes[place] == ' ') {
        place++;
      }
      behind = place;
      value = 0;
      if (place >= size) {
        token = END;
      } else if (isIn(bytes[place], 'a', 'z')) {
        token = WORD;
        while (behind < size && isIn(bytes[behind], 'a', 'z')) {
          behind++;
        }
      } else if (isIn(bytes[place], '0', '9')) {
        token = NUMBER;
        while (behind < size && isIn(bytes[behind], '0', '9')) {
          // a number of more digits may not be, so that its value is free
          value = behind - place < MOST_DIGITS ? value * 10 + bytes[behind] - '0' : value;
          behind++;
        }
      } else {
        token = bytes[place] == ';' ? SIGN : STRANGE;
        behind++;
      }
    }
  }
}

/**
 * Each promise by answers reckoned by hand from the document: ordinary inputs,
 * the edges it names, wrong inputs, and that a refusal changes nothing but its count.
 */
public final class PromiseTest {
  private static final int BAD = -2, OTHER = -3, NOTHING = -4, STUCK = -5, FULL = -6;
  private static final int FAR = -1000000;
  private static final int THING = 0, SOUGHT = 1, DRAWING = 2, SMALL = 3, DOUBTFUL = 4, BOXED = 5;
  private static final int DEALER = 0, FAMILY = 1, LOOKER = 2, LAST = 3;
  private static final int WORTH = 0, OWN = 1, MARK = 2, FROM = 3;
  private static final int FEET = 0, FALL = 1, FRIEND = 2, TIP = 3;
  private static final int MAX = Integer.MAX_VALUE, MIN = Integer.MIN_VALUE;
  private static int promise;
  private static int wrong;

  public static void main(String[] args) {
    newObject();
    rows();
    copies();
    shelvesWithThings();
    things();
    buyers();
    buyersByRow();
    changes();
    tape();
    sales();
    saleFaults();
    looks();
    prices();
    tables();
    pay();
    mornings();
    lookers();
    sums();
    bests();
    sets();
    markedAll();
    offers();
    rains();
    neighbours();
    quicks();
    worths();
    numbers();
    hours();
    toldMarks();
    inTruth();
    draws();
    images();
    statuses();
    refusalsChangeNothing();
    System.out.println(wrong == 0 ? "all promises hold" : wrong + " answers are not as due");
    if (wrong != 0) System.exit(1);
  }

  private static void due(String call, long got, long want) {
    if (got != want) {
      wrong++;
      System.out.println("promise " + promise + ": " + call + " answered " + got + ", due is " + want);
    }
  }

  private static int feed(BootSale x, String text) {
    int size = 0;
    for (int i = 0; i < text.length(); i++) size = x.feed(text.charAt(i));
    return size;
  }

  private static int sale(BootSale x, String text) {
    feed(x, text);
    return x.sale();
  }

  private static void newObject() {
    promise = 1;
    BootSale x = new BootSale();
    due("NONE", BootSale.NONE, -1);
    for (int what = 0; what <= 16; what++) {
      int want = switch (what) {
        case 2 -> 9;
        case 5, 9 -> 1;
        case 11 -> -1;
        default -> 0;
      };
      due("status(" + what + ") at first", x.status(what), want);
    }
    for (int s = 0; s < 8; s++) due("holds at first", x.holds(s), -1);
    due("gain at first", x.gain(), 0);
    due("back at first", x.back(), STUCK);
  }

  private static void rows() {
    BootSale x = new BootSale();
    promise = 2;
    due("row bytes", x.row(0, 0, 40), 1);
    due("row longs, empty", x.row(7, 3, 0), 1);
    due("shelf 8", x.row(8, 0, 1), BAD);
    due("shelf -1", x.row(-1, 0, 1), BAD);
    due("sort 5", x.row(0, 5, 1), BAD);
    due("sort -1", x.row(0, -1, 1), BAD);
    due("41 elements", x.row(0, 0, 41), BAD);
    due("-1 elements", x.row(0, 0, -1), BAD);
    due("many elements", x.row(0, 0, MAX), BAD);
    due("few elements", x.row(0, 0, MIN), BAD);
    due("refused", x.status(12), 8);
    promise = 3;
    long[] given = {0x123456789abcdef0L, -1, 255, 32768, 1L << 31, 1L << 40, 0};
    long[][] kept = {
        {-16, -1, -1, 0, 0, 0, 0},
        {-8464, -1, 255, -32768, 0, 0, 0},
        {0x9abcdef0, -1, 255, 32768, Integer.MIN_VALUE, 0, 0},
        given,
        {1, 1, 1, 1, 1, 1, 0}};
    for (int sort = 0; sort < 5; sort++) {
      x.row(1, sort, given.length);
      for (int i = 0; i < given.length; i++) {
        due("set", x.set(1, i, given[i]), 1);
        due("element of sort " + sort, x.element(1, i), kept[sort][i]);
      }
    }
    x.row(1, 2, 3);
    due("a new row is 0", x.element(1, 0), 0);
    x.thing(0, 9, 1, 0, 0);
    x.show(2, 0);
    due("i at the end", x.set(1, 3, 1), BAD);
    due("i -1", x.set(1, -1, 1), BAD);
    due("i MAX", x.set(1, MAX, 1), BAD);
    due("shelf 8", x.set(8, 0, 1), BAD);
    due("shelf MIN", x.set(MIN, 0, 1), BAD);
    due("a thing, i wrong too", x.set(2, -1, 1), OTHER);
    due("nothing, i wrong too", x.set(3, -1, 1), NOTHING);
    due("OTHER counted", x.status(13), 1);
    due("NOTHING counted", x.status(14), 1);
    promise = 5;
    x.set(1, 2, 77);
    int refused = x.status(12);
    due("element", x.element(1, 2), 77);
    due("element behind", x.element(1, 3), 0);
    due("element -1", x.element(1, -1), 0);
    due("element of a thing", x.element(2, 0), 0);
    due("element of nothing", x.element(3, 0), 0);
    due("element of shelf 9", x.element(9, 0), 0);
    due("element of shelf -1", x.element(-1, 0), 0);
    due("nothing refused", x.status(12), refused);
    x.row(1, 3, 40);
    due("an element of a new row behind an old one", x.element(1, 2), 0);
    due("the last of 40", x.set(1, 39, 8), 1);
    due("the last of 40", x.element(1, 39), 8);
    due("behind 40", x.element(1, 40), 0);
    due("behind 40", x.element(1, 41), 0);
    due("set behind 40", x.set(1, 40, 8), BAD);
    due("copied behind 40", x.copy(1, 1, 0, 1, 40), BAD);
    due("all 40", x.copy(1, 1, 0, 0, 40), 40);
    due("41", x.copy(1, 1, 0, 0, 41), BAD);
  }

  private static void copies() {
    promise = 4;
    BootSale x = new BootSale();
    x.row(0, 2, 6);
    for (int i = 0; i < 6; i++) x.set(0, i, i + 1);
    due("forward over itself", x.copy(0, 0, 0, 1, 4), 4);
    long[] want = {1, 1, 2, 3, 4, 6};
    for (int i = 0; i < 6; i++) due("as they were", x.element(0, i), want[i]);
    due("backward over itself", x.copy(0, 0, 2, 0, 4), 4);
    long[] then = {2, 3, 4, 6, 4, 6};
    for (int i = 0; i < 6; i++) due("as they were", x.element(0, i), then[i]);
    x.row(1, 2, 3);
    due("to another", x.copy(0, 1, 2, 1, 2), 2);
    due("untouched", x.element(1, 0), 0);
    due("first", x.element(1, 1), 4);
    due("last", x.element(1, 2), 6);
    due("source stays", x.element(0, 2), 4);
    due("none", x.copy(0, 1, 0, 0, 0), 0);
    due("too many for the source", x.copy(1, 0, 2, 0, 2), BAD);
    due("too many for the target", x.copy(0, 1, 0, 2, 2), BAD);
    due("n -1", x.copy(0, 1, 0, 0, -1), BAD);
    due("i -1", x.copy(0, 1, -1, 0, 1), BAD);
    due("j -1", x.copy(0, 1, 0, -1, 1), BAD);
    due("n wraps", x.copy(0, 1, 1, 1, MAX), BAD);
    due("i wraps", x.copy(0, 1, MAX, 0, 1), BAD);
    due("j wraps", x.copy(0, 1, 0, MAX, 1), BAD);
    due("n MIN", x.copy(0, 1, 0, 0, MIN), BAD);
    due("p 8", x.copy(8, 1, 0, 0, 1), BAD);
    due("q -1", x.copy(0, -1, 0, 0, 1), BAD);
    x.row(2, 3, 3);
    due("two sorts, n wrong too", x.copy(0, 2, 0, 0, 9), OTHER);
    due("nothing there", x.copy(0, 3, 0, 0, 9), NOTHING);
    due("nothing here", x.copy(3, 0, 0, 0, 9), NOTHING);
    x.thing(0, 9, 1, 0, 0);
    x.show(4, 0);
    due("a thing to nothing", x.copy(4, 3, 0, 0, 1), OTHER);
    due("nothing to a thing", x.copy(3, 4, 0, 0, 1), OTHER);
    due("a thing to a row", x.copy(4, 0, 0, 0, 1), OTHER);
    due("a row to a thing", x.copy(0, 4, 0, 0, 1), OTHER);
    due("BAD counted", x.status(12), 11);
    due("OTHER counted", x.status(13), 5);
    due("NOTHING counted", x.status(14), 2);
  }

  private static void shelvesWithThings() {
    BootSale x = new BootSale();
    promise = 7;
    due("no such thing", x.show(0, 0), BAD);
    for (int kind = 0; kind < 6; kind++) x.thing(kind, 40 + kind, 1, 0, 6);
    for (int kind = 0; kind < 6; kind++) due("show", x.show(kind, kind), 1);
    due("show thing 6", x.show(0, 6), BAD);
    due("show thing -2", x.show(0, -2), BAD);
    due("show on shelf 8", x.show(8, 0), BAD);
    due("show on shelf -1", x.show(-1, -1), BAD);
    x.row(7, 4, 2);
    promise = 6;
    due("holds a thing", x.holds(5), 15);
    due("holds booleans", x.holds(7), 4);
    due("holds nothing", x.holds(6), -1);
    due("no shelf", x.holds(8), -1);
    due("no shelf -1", x.holds(-1), -1);
    promise = 8;
    int[][] says = {
        {40, OTHER, OTHER, OTHER, OTHER, OTHER},
        {41, 36, OTHER, OTHER, OTHER, OTHER},
        {42, OTHER, 1, OTHER, OTHER, OTHER},
        {43, OTHER, OTHER, 43, OTHER, OTHER},
        {44, 15, OTHER, OTHER, 15, OTHER},
        {45, OTHER, OTHER, 6, OTHER, 6}};
    for (int s = 0; s < 6; s++) {
      for (int kind = 0; kind < 6; kind++) due("says(" + s + ", " + kind + ")", x.says(s, kind), says[s][kind]);
    }
    due("says nothing", x.says(6, 0), NOTHING);
    due("says of a row", x.says(7, 0), OTHER);
    due("says of shelf 8", x.says(8, 0), BAD);
    due("says of shelf -1", x.says(-1, 0), BAD);
    due("says kind 6 of nothing", x.says(6, 6), BAD);
    due("says kind -1", x.says(0, -1), BAD);
    promise = 7;
    due("NONE takes a thing away", x.show(0, -1), 1);
    due("holds", x.holds(0), -1);
    due("NONE takes a row away", x.show(7, -1), 1);
    due("holds", x.holds(7), -1);
    x.row(1, 0, 1);
    due("a row in place of a thing", x.holds(1), 0);
  }

  private static void things() {
    promise = 9;
    BootSale x = new BootSale();
    due("least", x.thing(0, 1, 1, 0, 0), 0);
    due("most", x.thing(5, 99, 9, 99, 9), 1);
    int[][] bad = {{-1, 9, 1, 0, 0}, {6, 9, 1, 0, 0}, {0, 0, 1, 0, 0}, {0, 100, 1, 0, 0}, {0, 9, 0, 0, 0}, {0, 9, 10, 0, 0},
        {0, 9, 1, -1, 0}, {0, 9, 1, 100, 0}, {0, 9, 1, 0, -1}, {0, 9, 1, 0, 10}, {MIN, MIN, MIN, MIN, MIN}};
    for (int[] b : bad) due("bad thing", x.thing(b[0], b[1], b[2], b[3], b[4]), BAD);
    for (int n = 2; n < 8; n++) due("the next", x.thing(4, 10 + n, n, n, n), n);
    due("a ninth", x.thing(0, 9, 1, 0, 0), FULL);
    due("a bad ninth", x.thing(0, 0, 1, 0, 0), BAD);
    due("how many", x.status(0), 8);
    due("FULL counted", x.status(16), 1);
    promise = 17;
    int[] first = {0, 1, 1, 0, 0, 1, 0}, second = {5, 99, 9, 99, 9, 99, 0}, fifth = {4, 14, 4, 4, 4, 14, 0};
    for (int what = 0; what < 7; what++) {
      due("thingOf 0", x.thingOf(0, what), first[what]);
      due("thingOf 1", x.thingOf(1, what), second[what]);
      due("thingOf 4", x.thingOf(4, what), fifth[what]);
    }
    due("what 7", x.thingOf(0, 7), BAD);
    due("what -1", x.thingOf(0, -1), BAD);
    due("thing 8", x.thingOf(8, 0), BAD);
    due("thing -1", x.thingOf(-1, 0), BAD);
  }

  private static void buyers() {
    promise = 10;
    BootSale x = new BootSale();
    due("first", x.buyer(3, 0, 1), 0);
    due("behind of the hour", x.buyer(3, 1, 2), 1);
    due("earlier", x.buyer(0, 2, 3), 0);
    due("later", x.buyer(6, 3, 99), 3);
    due("between", x.buyer(3, 3, 5), 3);
    int[][] list = {{0, 2, 3}, {3, 0, 1}, {3, 1, 2}, {3, 3, 5}, {6, 3, 99}};
    promise = 18;
    for (int place = 0; place < 5; place++) {
      for (int what = 0; what < 3; what++) due("buyerOf " + place, x.buyerOf(place, what), list[place][what]);
    }
    due("place 5", x.buyerOf(5, 0), BAD);
    due("place -1", x.buyerOf(-1, 0), BAD);
    due("what 3", x.buyerOf(0, 3), BAD);
    due("what -1", x.buyerOf(0, -1), BAD);
    promise = 10;
    int[][] bad = {{-1, 0, 1}, {7, 0, 1}, {0, -1, 1}, {0, 4, 1}, {0, 0, 0}, {0, 0, 100}, {MAX, MAX, MAX}};
    for (int[] b : bad) due("bad buyer", x.buyer(b[0], b[1], b[2]), BAD);
    for (int n = 5; n < 24; n++) due("the next", x.buyer(6, 0, 9), n);
    due("a 25th", x.buyer(0, 0, 9), FULL);
    due("a bad 25th", x.buyer(0, 0, 0), BAD);
    due("how many", x.status(1), 24);
    promise = 51;
    due("clear", x.clear(), 24);
    due("clear again", x.clear(), 0);
    due("none left", x.buyerOf(0, 0), BAD);
  }

  private static void buyersByRow() {
    promise = 11;
    BootSale x = new BootSale();
    x.buyer(2, 0, 50);
    x.row(0, 0, 7);
    int[] told = {5, 1, 20, 2, 3, 7, 1};
    for (int i = 0; i < 7; i++) x.set(0, i, told[i]);
    due("two of them", x.buyers(0, 6), 3);
    int[][] list = {{2, 0, 50}, {2, 3, 7}, {5, 1, 20}};
    for (int place = 0; place < 3; place++) {
      for (int what = 0; what < 3; what++) due("buyerOf", x.buyerOf(place, what), list[place][what]);
    }
    due("no multiple", x.buyers(0, 4), BAD);
    due("n 0", x.buyers(0, 0), BAD);
    due("n -3", x.buyers(0, -3), BAD);
    due("n 42", x.buyers(0, 42), BAD);
    due("fewer elements", x.buyers(0, 9), BAD);
    due("shelf 8", x.buyers(8, 3), BAD);
    due("nothing", x.buyers(1, 3), NOTHING);
    due("nothing, n wrong", x.buyers(1, 4), BAD);
    x.thing(0, 9, 1, 0, 0);
    x.show(2, 0);
    due("a thing", x.buyers(2, 3), OTHER);
    x.row(3, 3, 6);
    long[] good = {0, 0, 1, 6, 3, 99};
    long[][] wrongOnes = {{-1, 7, 1L << 32}, {-1, 4, 1L << 32}, {0, 100, (1L << 32) + 1},
        {-1, 7, 1L << 32}, {-1, 4, 1L << 32}, {0, 100, (1L << 32) + 1}};
    for (int i = 0; i < 6; i++) {
      for (long v : wrongOnes[i]) {
        for (int j = 0; j < 6; j++) x.set(3, j, j == i ? v : good[j]);
        due("a number that may not be", x.buyers(3, 6), BAD);
      }
    }
    due("none came by those", x.status(1), 3);
    x.set(3, 5, 99);
    due("edges", x.buyers(3, 6), 5);
    x.row(4, 0, 39);
    for (int i = 2; i < 39; i += 3) x.set(4, i, 9);
    due("13 at once", x.buyers(4, 39), 18);
    due("13 more", x.buyers(4, 39), FULL);
    due("none came by that", x.status(1), 18);
    due("up to 24", x.buyers(4, 18), 24);
    due("one more", x.buyers(4, 3), FULL);
    x.set(4, 2, 0);
    due("bad ahead of full", x.buyers(4, 3), BAD);
    x.row(5, 4, 3);
    due("booleans: no purse", x.buyers(5, 3), BAD);
  }

  private static void changes() {
    promise = 12;
    BootSale x = new BootSale();
    x.thing(0, 30, 2, 5, 0);
    due("no thing 1", x.change(1, WORTH, 5), BAD);
    int[][] range = {{1, 99}, {0, 99}, {0, 99}, {0, 7}};
    int[] was = {30, 5, 30, 0};
    int[] cell = {1, 3, 5, 6};
    for (int what = 0; what < 4; what++) {
      due("to the least", x.change(0, what, range[what][0]), was[what]);
      due("to the most", x.change(0, what, range[what][1]), range[what][0]);
      due("below", x.change(0, what, range[what][0] - 1), BAD);
      due("above", x.change(0, what, range[what][1] + 1), BAD);
      due("it is then", x.thingOf(0, cell[what]), range[what][1]);
    }
    due("room stays", x.thingOf(0, 2), 2);
    due("what 4", x.change(0, 4, 1), BAD);
    due("what -1", x.change(0, -1, 1), BAD);
    due("what MAX", x.change(0, MAX, 1), BAD);
    due("thing -1", x.change(-1, 0, 1), BAD);
    promise = 13;
    int[][] asked = {{1, 30}, {0, 14}, {0, 1}, {0, 9}};
    int[] first = {9, 0, 0, 1};
    for (int what = 0; what < 4; what++) {
      due("to the least", x.ask(what, asked[what][0]), first[what]);
      due("to the most", x.ask(what, asked[what][1]), asked[what][0]);
      due("below", x.ask(what, asked[what][0] - 1), BAD);
      due("above", x.ask(what, asked[what][1] + 1), BAD);
      due("it is then", x.status(2 + what), asked[what][1]);
    }
    due("what 4", x.ask(4, 1), BAD);
    due("what -1", x.ask(-1, 1), BAD);
    due("what MIN", x.ask(MIN, 1), BAD);
  }

  private static void tape() {
    promise = 14;
    BootSale x = new BootSale();
    due("byte 0", x.feed(0), 1);
    due("byte 255", x.feed(255), 2);
    due("byte 256", x.feed(256), BAD);
    due("byte -1", x.feed(-1), BAD);
    due("size", x.status(8), 2);
    for (int i = 3; i <= 250; i++) due("feed", x.feed(32), i);
    due("a 251st", x.feed(32), FULL);
    due("a bad 251st", x.feed(999), BAD);
    promise = 15;
    due("wipe", x.wipe(), 250);
    due("wipe again", x.wipe(), 0);
    due("feed then", x.feed('t'), 1);
  }

  private static void sales() {
    promise = 16;
    BootSale x = new BootSale();
    due("every statement", sale(x, "thing 4 50 3 10 with 7;buyer 0 0 60;mark 0 45;from 0 2;feet 12;fall 5;friend 1;tip 3"), 8);
    int[] thing = {4, 50, 3, 10, 7, 45, 2};
    for (int what = 0; what < 7; what++) due("thingOf", x.thingOf(0, what), thing[what]);
    int[] buyer = {0, 0, 60};
    for (int what = 0; what < 3; what++) due("buyerOf", x.buyerOf(0, what), buyer[what]);
    int[] asked = {12, 5, 1, 3};
    for (int what = 0; what < 4; what++) due("asked", x.status(2 + what), asked[what]);
    due("the tape is empty then", x.status(8), 0);
    due("without blanks", sale(x, "thing0 5 1 1;buyer0 1 9;tip0"), 3);
    due("a is 0 then", x.thingOf(1, 4), 0);
    due("mark is worth", x.thingOf(1, 5), 5);
    due("behind those of the hour", x.buyerOf(1, 1), 1);
    due("many blanks", sale(x, "   thing  1   09  2 00   with 3  ;  feet   07  "), 2);
    due("worth 09", x.thingOf(2, 1), 9);
    due("a of any kind", x.thingOf(2, 4), 3);
    due("feet 07", x.status(2), 7);
    due("the last one counts", sale(x, "tip 2;tip 9;tip 4"), 3);
    due("tip", x.status(5), 4);
    due("edges", sale(x, "feet 30;fall 14;friend 0;tip 9;from 2 7;mark 2 99;buyer 6 3 99;thing 5 99 9 99 with 9"), 8);
    due("low edges", sale(x, "feet 1;fall 0;friend 1;tip 0;from 2 0;mark 2 0;buyer 0 0 1;thing 0 1 1 0 with 0"), 8);
  }

  private static void saleFaults() {
    promise = 16;
    String[] texts = {"", "   ", "feet", "feet ", "feet 9;", "feet 9; ", "thing 0 5 1 1 with", ";", ";feet 9", "feet 9;;feet 8",
        "feet 9 feet 8", "feet 9 8", "feat 9", "feets 9", "fee 9", "feet 0", "feet 31", "feet 009", "feet 123", "Feet 9",
        "feet 9 A", "feet 9\t", "feet -1", "fall 15", "friend 2", "tip 10", "buyer 7 0 1", "buyer 0 4 1", "buyer 0 0 0",
        "thing 6 1 1 1", "thing 0 0 1 1", "thing 0 1 0 1", "thing 0 1 10 1", "thing 0 1 1 1 with 10", "thing 0 1 1 1 8",
        "thing 0 1 1 1 with 1 with 1", "mark 0 5", "from 0 5", "mark", "thing 0 1 1 1;mark 1 5", "thing 0 1 1 1;mark 0 100",
        "thing 0 1 1 1;from 0 8", "buyer 0 0 1 with 1", "with 1", "9", "thing thing", "thing 0 5 1 1with 5;feet\u00e9",
        "a\u00ff", "feet 9" + (char) 0};
    int[] faults = {0, 3, 4, 5, 7, 8, 18, 0, 0, 7,
        7, 7, 0, 0, 0, 5, 5, 5, 5, 0,
        7, 6, 5, 5, 7, 4, 6, 8, 10,
        6, 8, 10, 10, 19, 14,
        21, 5, 5, 4, 19, 21,
        21, 12, 0, 0, 6, 24,
        0, 6};
    BootSale x = new BootSale();
    for (int i = 0; i < texts.length; i++) {
      due("sale '" + texts[i] + "'", sale(x, texts[i]), -20 - faults[i]);
      due("the tape is empty then", x.status(8), 0);
      due("refused", x.status(12), i + 1);
      if (i % 20 == 19) x = again(x, i + 1);
    }
    due("no thing", x.status(0), 0);
    due("no buyer", x.status(1), 0);
    due("feet as they were", x.status(2), 9);
    room();
  }

  /** A new object, refused as often: an object is used for 512 calls at most. */
  private static BootSale again(BootSale x, int refused) {
    due("no thing", x.status(0), 0);
    due("no buyer", x.status(1), 0);
    BootSale y = new BootSale();
    for (int i = 0; i < refused; i++) y.ask(0, 0);
    return y;
  }

  private static void room() {
    BootSale x = new BootSale();
    for (int i = 0; i < 7; i++) x.thing(0, 9, 1, 0, 0);
    for (int i = 0; i < 23; i++) x.buyer(0, 0, 9);
    due("two too many", sale(x, "thing 0 1 1 1; thing 9"), -35);
    due("nothing of it came", x.status(0), 7);
    due("a buyer too many", sale(x, "buyer 0 0 1;  buyer"), -34);
    due("nothing of it came", x.status(1), 23);
    due("what there is room for", sale(x, "thing 0 1 1 1;buyer 0 0 1"), 2);
    due("no room: its word, whatever is behind", sale(x, " thing"), -21);
    due("no room: its word, whatever is behind", sale(x, "buyer x"), -20);
    due("others still", sale(x, "mark 7 9"), 1);
    StringBuilder all = new StringBuilder("tip 1");
    while (all.length() < 250) all.append(" ");
    due("250 bytes", sale(new BootSale(), all.toString()), 1);
    due("250 bytes, too early", sale(new BootSale(), all.toString().replace('1', ' ')), -270);
  }

  private static void looks() {
    promise = 19;
    BootSale x = new BootSale();
    due("no thing", x.price(0, 0), BAD);
    due("no thing -1", x.price(-1, 0), BAD);
    promise = 20;
    due("hour 7", x.on(7), BAD);
    due("hour -1", x.on(-1), BAD);
    due("none on", x.on(0), 0);
    promise = 21;
    due("no thing", x.pays(0, 0, 0), BAD);
    promise = 22;
    due("no buyer", x.buys(0), BAD);
    due("no buyer -1", x.buys(-1), BAD);
    promise = 23;
    due("no buyer", x.comes(0), BAD);
    promise = 24;
    due("no thing", x.who(0), BAD);
    due("no thing -1", x.who(-1), BAD);
    promise = 50;
    due("what 2", x.sum(2), BAD);
    due("what -1", x.sum(-1), BAD);
  }

  private static void prices() {
    promise = 19;
    BootSale x = new BootSale();
    x.thing(0, 50, 1, 10, 0);
    x.thing(0, 20, 1, 30, 0);
    x.ask(FALL, 7);
    int[] want = {50, 47, 43, 40, 36, 33, 10};
    for (int hour = 0; hour < 7; hour++) due("price in " + hour, x.price(0, hour), want[hour]);
    for (int hour = 0; hour < 7; hour++) due("own at least", x.price(1, hour), 30);
    x.change(0, MARK, 99);
    x.ask(FALL, 14);
    due("99 less 69", x.price(0, 5), 30);
    x.change(0, MARK, 3);
    due("own above the mark", x.price(0, 0), 10);
    due("hour 7", x.price(0, 7), BAD);
    due("hour -1", x.price(0, -1), BAD);
    due("thing 2", x.price(2, 0), BAD);
  }

  private static void tables() {
    promise = 20;
    BootSale x = new BootSale();
    x.thing(0, 9, 5, 0, 0);
    x.thing(0, 9, 5, 0, 0);
    x.thing(0, 9, 4, 0, 0);
    x.thing(0, 9, 1, 0, 0);
    due("one has no room, the next has", x.on(0), 5);
    x.ask(FEET, 10);
    due("just ten", x.on(6), 3);
    x.change(0, FROM, 3);
    due("from three on", x.on(2), 14);
    due("from three on", x.on(3), 3);
    x.change(1, FROM, 7);
    due("in the car", x.on(6), 13);
    x.ask(FEET, 1);
    due("a foot", x.on(0), 8);
  }

  private static void pay() {
    promise = 21;
    BootSale x = new BootSale();
    for (int kind = 0; kind < 6; kind++) x.thing(kind, 37, 1, 0, 3);
    // worth 37 by tenths: 18, 22, 11, 7
    int[][] none = {{18, 22, 11, 7}, {33, 22, 11, 7}, {17, 21, 10, 6}, {18, 37, 11, 7}, {23, 15, 7, 4}, {3, 3, 3, 3}};
    int[][] eight = {{26, 30, 19, 15}, {33, 30, 19, 15}, {25, 29, 18, 14}, {26, 37, 19, 15}, {23, 21, 13, 10}, {3, 3, 3, 3}};
    for (int kind = 0; kind < 6; kind++) {
      for (int sort = 0; sort < 4; sort++) {
        due("pays(" + sort + ", " + kind + ", 0)", x.pays(sort, kind, 0), none[kind][sort]);
        due("pays(" + sort + ", " + kind + ", 8)", x.pays(sort, kind, 8), eight[kind][sort]);
      }
    }
    x.change(2, WORTH, 1);
    due("0 at least", x.pays(LAST, 2, 0), 0);
    due("sort 4", x.pays(4, 0, 0), BAD);
    due("sort -1", x.pays(-1, 0, 0), BAD);
    due("thing 6", x.pays(0, 6, 0), BAD);
    due("thing -1", x.pays(0, -1, 0), BAD);
    due("drawn 9", x.pays(0, 0, 9), BAD);
    due("drawn -1", x.pays(0, 0, -1), BAD);
    x.change(5, WORTH, 2);
    due("a box holds less than a", x.pays(FAMILY, 5, 0), 2);
  }

  /** Two families and a dealer over three things; a drawing one makes the others dearer. */
  private static BootSale market() {
    BootSale x = new BootSale();
    x.thing(THING, 20, 4, 2, 0);
    x.thing(DRAWING, 10, 3, 1, 0);
    x.thing(SOUGHT, 40, 5, 5, 0);
    x.change(0, MARK, 11);
    x.change(1, MARK, 6);
    x.change(2, MARK, 30);
    x.buyer(0, DEALER, 40);
    x.buyer(1, FAMILY, 40);
    x.buyer(6, LAST, 3);
    return x;
  }

  private static void mornings() {
    BootSale x = market();
    promise = 22;
    // nine feet: 0 and 1 are on, 2 is not. The dealer pays 10 and 1 for thing 0: price 11, thing 1: 5 for 6
    due("dealer: pay is the price", x.buys(0), 0);
    // then 1 and 2 are on; the family pays 6 for thing 1, 25 for thing 2
    due("family takes the one at its price", x.buys(1), 1);
    // last taker: thing 2 at own 5, purse 3
    due("last has not so much", x.buys(2), -1);
    promise = 24;
    due("who 0", x.who(0), 0);
    due("who 1", x.who(1), 1);
    due("who 2", x.who(2), -1);
    promise = 25;
    due("taken", x.taken(), 17);
    promise = 26;
    due("left", x.left(), 4);
    promise = 27;
    due("home", x.home(), 5);
    x.ask(TIP, 3);
    due("home by three", x.home(), 15);
    promise = 28;
    due("gain", x.gain(), 2);
    x.ask(TIP, 9);
    due("gain below 0", x.gain(), -28);
    promise = 22;
    x.change(0, MARK, 12);
    due("a price above the pay", x.buys(0), -1);
    x.change(0, MARK, 10);
    x.change(1, MARK, 4);
    due("the same over: the first", x.buys(0), 0);
    x.change(1, MARK, 3);
    due("more over: the other", x.buys(0), 1);
    promise = 26;
    x.change(2, FROM, 7);
    due("in the car is left too", x.left() & 4, 4);
    promise = 22;
    x.clear();
    x.change(0, MARK, 10);
    x.buyer(0, FAMILY, 9);
    due("the purse is below the price", x.buys(0), 1);
    x.clear();
    x.buyer(0, FAMILY, 10);
    due("the purse is the price", x.buys(0), 0);
    BootSale late = new BootSale();
    late.thing(THING, 90, 1, 18, 0);
    late.buyer(5, LAST, 99);
    late.buyer(6, LAST, 99);
    due("the last one before noon", late.buys(0), -1);
    due("the last one at noon, own", late.buys(1), 0);
    due("taken at noon", late.taken(), 18);
    soldMakesRoom();
  }

  private static void soldMakesRoom() {
    promise = 22;
    BootSale x = new BootSale();
    x.ask(FEET, 4);
    x.thing(THING, 10, 4, 0, 0);
    x.thing(THING, 90, 4, 0, 0);
    x.change(0, MARK, 1);
    x.change(1, MARK, 1);
    x.buyer(2, FAMILY, 9);
    x.buyer(2, FAMILY, 9);
    x.buyer(2, FAMILY, 9);
    due("only the first is on", x.buys(0), 0);
    due("then the other", x.buys(1), 1);
    due("then none", x.buys(2), -1);
    // a drawing thing that is sold draws no more
    BootSale y = new BootSale();
    y.thing(DRAWING, 10, 1, 0, 0);
    y.thing(THING, 10, 1, 0, 0);
    y.change(0, MARK, 0);
    y.change(1, MARK, 7);
    y.buyer(0, FAMILY, 99);
    y.buyer(0, FAMILY, 99);
    due("the drawing one", y.buys(0), 0);
    due("no more drawn", y.buys(1), -1);
    y.change(0, MARK, 99);
    due("drawn", y.buys(0), 1);
  }

  private static void lookers() {
    promise = 23;
    BootSale x = new BootSale();
    for (int i = 0; i < 3; i++) x.thing(THING, 50, 1, 0, 0);
    for (int i = 0; i < 3; i++) x.change(i, MARK, 15);
    x.buyer(0, LOOKER, 50);
    x.buyer(0, FAMILY, 50);
    x.buyer(3, LOOKER, 14);
    x.buyer(3, LOOKER, 50);
    x.buyer(4, DEALER, 50);
    x.buyer(4, LOOKER, 50);
    int[] comes = {0, 1, 1, 0, 1, 1};
    int[] buys = {-1, 0, -1, -1, 1, 2};
    for (int place = 0; place < 6; place++) {
      due("comes " + place, x.comes(place), comes[place]);
      due("buys " + place, x.buys(place), buys[place]);
    }
    x.ask(FRIEND, 1);
    int[] then = {0, 1, -1, 2, -1, -1};
    for (int place = 0; place < 6; place++) {
      due("with a friend all come", x.comes(place), 1);
      due("with a friend", x.buys(place), then[place]);
    }
    due("place 6", x.comes(6), BAD);
    due("place -1", x.comes(-1), BAD);
  }

  private static void sums() {
    promise = 50;
    BootSale x = market();
    due("worth", x.sum(0), 70);
    due("purses", x.sum(1), 83);
    x.clear();
    due("no purses", x.sum(1), 0);
  }

  private static void bests() {
    BootSale x = new BootSale();
    x.thing(THING, 50, 2, 10, 0);
    x.buyer(0, FAMILY, 99);
    x.buyer(2, DEALER, 28);
    promise = 29;
    due("what the family pays", x.bestMark(0), 30);
    due("nothing is changed", x.thingOf(0, 5), 50);
    due("thing 1", x.bestMark(1), BAD);
    due("thing -1", x.bestMark(-1), BAD);
    x.change(0, FROM, 1);
    due("what the dealer pays", x.bestMark(0), 25);
    x.change(0, FROM, 7);
    due("all the same: the least", x.bestMark(0), 0);
    x.change(0, FROM, 0);
    x.change(0, OWN, 31);
    due("never sold", x.bestMark(0), 0);
    x.change(0, OWN, 30);
    due("own is what is paid: the least", x.bestMark(0), 0);
    x.change(0, OWN, 10);
    promise = 30;
    x.change(0, MARK, 32);
    // the dealer's price is 32 less 32 * fall * 2 / 100 cut: from 11 on it is 25
    due("best fall", x.bestFall(), 11);
    due("nothing is changed", x.status(3), 0);
    x.change(0, MARK, 30);
    due("best fall 0", x.bestFall(), 0);
    x.ask(FALL, 14);
    due("best fall, whatever it was", x.bestFall(), 0);
    due("nothing is changed", x.status(3), 14);
    x.ask(FALL, 0);
    promise = 31;
    x.change(0, FROM, 5);
    due("from six", x.bestFrom(0), 0);
    due("nothing is changed", x.thingOf(0, 6), 5);
    due("thing 1", x.bestFrom(1), BAD);
    due("thing -1", x.bestFrom(-1), BAD);
    bestFromLater();
    promise = 33;
    BootSale y = market();
    // all three fit 12 feet: the dealer takes thing 2 for 30
    due("feet needed", y.feet(), 12);
    due("nothing is changed", y.status(2), 9);
    y.clear();
    due("the least", y.feet(), 1);
    BootSale z = new BootSale();
    for (int i = 0; i < 4; i++) z.thing(BOXED, 90, 9, 9, 9);
    for (int i = 0; i < 4; i++) z.change(i, MARK, 9);
    for (int i = 0; i < 4; i++) z.buyer(0, FAMILY, 9);
    due("one after the other needs nine", z.feet(), 9);
  }

  private static void bestFromLater() {
    promise = 31;
    BootSale x = new BootSale();
    x.thing(THING, 50, 2, 10, 0);
    x.thing(THING, 50, 2, 10, 0);
    x.change(0, MARK, 20);
    x.change(1, MARK, 30);
    x.buyer(0, FAMILY, 99);
    x.buyer(3, LAST, 99);
    x.buyer(4, DEALER, 99);
    // at six the cheap one goes, and the dealer, who pays 25, finds only the dear one
    due("at six the dear one, then the cheap one", x.bestFrom(0), 1);
    due("gain as it is", x.gain(), 18);
    x.change(0, FROM, 1);
    due("gain then", x.gain(), 50);
    // at noon the wide one for 1 would keep the other, for 5, off the table
    BootSale y = new BootSale();
    y.ask(TIP, 0);
    y.thing(THING, 90, 9, 1, 0);
    y.thing(THING, 90, 1, 5, 0);
    y.buyer(6, LAST, 99);
    due("gain as it is", y.gain(), 1);
    due("in the car", y.bestFrom(0), 7);
    due("nothing is changed", y.gain(), 1);
    y.change(1, FROM, 7);
    due("from six", y.bestFrom(0), 0);
  }

  private static void sets() {
    promise = 32;
    BootSale x = market();
    // only thing 2 and 0: dealer takes 2 (36 for 30), family takes 0 (12 for 11)
    due("table", x.table(), 5);
    due("nothing is changed", x.on(0), 3);
    x.change(2, FROM, 7);
    due("whatever FROM is", x.table(), 5);
    x.clear();
    due("all the same: the least", x.table(), 0);
    due("nothing", new BootSale().table(), 0);
    // what has no room at first comes on when there is room
    BootSale y = new BootSale();
    y.ask(FEET, 4);
    y.thing(THING, 50, 4, 0, 0);
    y.thing(THING, 50, 4, 0, 0);
    y.change(0, MARK, 10);
    y.change(1, MARK, 10);
    y.buyer(0, FAMILY, 99);
    y.buyer(1, FAMILY, 99);
    due("one behind the other", y.table(), 3);
  }

  private static void markedAll() {
    promise = 34;
    BootSale x = new BootSale();
    due("nothing", x.marked(-1), 0);
    due("thing 0 of none", x.marked(0), FAR + BAD);
    x.thing(THING, 50, 2, 10, 0);
    x.thing(SOUGHT, 60, 2, 5, 0);
    x.buyer(0, DEALER, 99);
    x.buyer(1, FAMILY, 29);
    due("gain then", x.marked(-1), 83);
    due("mark 0", x.marked(0), 29);
    due("mark 1", x.marked(1), 54);
    due("nothing is changed", x.thingOf(1, 5), 60);
    due("thing 2", x.marked(2), FAR + BAD);
    due("thing -2", x.marked(-2), FAR + BAD);
    due("counted", x.status(12), 3);
  }

  private static void offers() {
    BootSale x = market();
    promise = 35;
    // as it is: 11 and 6, thing 2 left: gain 12
    due("gain as it is", x.gain(), 12);
    due("the same is not more", x.offer(0, 0, 11), 0);
    due("one more", x.offer(0, 0, 12), 1);
    due("thing 2 isn't on at six", x.offer(0, 2, 99), STUCK);
    due("thing 0 is sold", x.offer(1, 0, 99), STUCK);
    // thing 1 is left for the last one then, at own 1
    due("thing 2 for nothing", x.offer(1, 2, 0), 0);
    due("thing 2 for 1", x.offer(1, 2, 1), 1);
    due("more than the purse", x.offer(2, 2, 99), 1);
    due("less than own, but no home", x.offer(2, 2, 0), 1);
    due("v 100", x.offer(0, 0, 100), BAD);
    due("v -1", x.offer(0, 0, -1), BAD);
    due("place 3", x.offer(3, 0, 9), BAD);
    due("place -1", x.offer(-1, 0, 9), BAD);
    due("thing 3", x.offer(0, 3, 9), BAD);
    due("thing -1", x.offer(0, -1, 9), BAD);
    due("v 100, and stuck", x.offer(0, 2, 100), BAD);
    promise = 36;
    due("least", x.least(0, 0), 12);
    due("least at once", x.least(2, 2), 0);
    due("thing 2 for thing 1", x.least(1, 2), 1);
    due("stuck", x.least(0, 2), STUCK);
    due("place 3", x.least(3, 0), BAD);
    due("thing 3", x.least(0, 3), BAD);
    due("thing -1", x.least(0, -1), BAD);
    BootSale y = new BootSale();
    y.ask(FEET, 2);
    y.thing(BOXED, 9, 2, 0, 9);
    y.thing(THING, 99, 1, 0, 0);
    y.thing(THING, 99, 1, 0, 0);
    for (int i = 1; i < 3; i++) y.change(i, MARK, 59);
    y.buyer(0, FAMILY, 9);
    y.buyer(0, LOOKER, 1);
    y.buyer(1, FAMILY, 99);
    y.buyer(1, FAMILY, 99);
    due("it would be bought as dear", y.least(0, 0), 10);
    due("a looker comes behind who bought", y.comes(1), 1);
    due("a looker may offer", y.least(1, 1), 60);
    y.ask(FEET, 1);
    due("it would be bought for 59 behind", y.least(0, 1), 60);
    y.clear();
    y.buyer(0, LOOKER, 9);
    due("they don't come", y.offer(0, 1, 9), STUCK);
    due("they don't come", y.least(0, 1), STUCK);
    noOffer();
    BootSale z = new BootSale();
    z.thing(SMALL, 99, 1, 0, 0);
    z.change(0, MARK, 98);
    z.buyer(0, FAMILY, 99);
    due("99 is the most", z.least(0, 0), 99);
    due("99 is the most", z.offer(0, 0, 99), 1);
    due("98 is no more", z.offer(0, 0, 98), 0);
    z.change(0, MARK, 99);
    due("100 may not be", z.least(0, 0), -1);
  }

  /** An offer for what would be sold dearer twice behind. */
  private static void noOffer() {
    promise = 36;
    BootSale x = new BootSale();
    x.ask(TIP, 0);
    x.thing(DRAWING, 99, 1, 0, 0);
    x.thing(THING, 99, 1, 0, 0);
    x.change(0, MARK, 59);
    x.change(1, MARK, 60);
    x.buyer(0, DEALER, 1);
    x.buyer(1, FAMILY, 60);
    x.buyer(2, FAMILY, 59);
    // the family pays 60 for thing 1 while thing 0 draws, 59 for thing 0
    due("gain as it is", x.gain(), 59);
    x.change(0, MARK, 99);
    due("gain with thing 0 to draw", x.gain(), 60);
    due("the drawing one sold: the other stays", x.least(0, 0), 61);
    x.thing(THING, 98, 1, 0, 0);
    x.change(2, MARK, 59);
    due("two are drawn to", x.gain(), 119);
    due("no offer is enough", x.least(0, 0), -1);
    due("no offer is enough", x.offer(0, 0, 99), 0);
    due("NONE isn't refused", x.status(12) + x.status(15), 0);
  }

  private static void rains() {
    promise = 37;
    BootSale x = market();
    due("from six", x.rain(0), 24);
    due("from seven", x.rain(1), 9);
    due("from eight", x.rain(2), 0);
    due("from noon", x.rain(6), 0);
    due("nothing is changed", x.status(1), 3);
    due("hour 7", x.rain(7), FAR + BAD);
    due("hour -1", x.rain(-1), FAR + BAD);
    due("counted", x.status(12), 2);
    due("no buyers", new BootSale().rain(0), 0);
  }

  private static void neighbours() {
    promise = 38;
    BootSale x = new BootSale();
    x.thing(THING, 50, 2, 10, 0);
    x.thing(THING, 30, 2, 10, 0);
    x.change(0, MARK, 25);
    x.change(1, MARK, 15);
    x.buyer(0, FAMILY, 99);
    // thing 1 is 15 for 18: 3 over
    due("3 over: the first still", x.neighbour(0, 28, 0), 0);
    due("2 over: the other", x.neighbour(0, 27, 0), 10);
    due("gain", x.gain(), 23);
    due("the family has but the other", x.neighbour(0, 24, 0), 10);
    due("the mark then", x.neighbour(0, 20, 1), 17);
    due("nobody pays so much", x.neighbour(0, 60, 0), 0);
    due("the mark as it is", x.neighbour(0, 99, 1), 27);
    due("best mark", x.bestMark(0), 27);
    due("of the other", x.neighbour(1, 0, 0), 0);
    due("p 100", x.neighbour(0, 100, 0), FAR + BAD);
    due("p -1", x.neighbour(0, -1, 0), FAR + BAD);
    due("what 2", x.neighbour(0, 1, 2), FAR + BAD);
    due("what -1", x.neighbour(0, 1, -1), FAR + BAD);
    due("thing 2", x.neighbour(2, 1, 0), FAR + BAD);
    due("thing -1", x.neighbour(-1, 1, 0), FAR + BAD);
    due("nothing is changed", x.gain(), 23);
    due("counted", x.status(12), 6);
    BootSale y = new BootSale();
    for (int i = 0; i < 8; i++) y.thing(DRAWING, 10, 1, 0, 0);
    for (int i = 0; i < 8; i++) y.change(i, MARK, 13);
    y.buyer(0, FAMILY, 99);
    due("eight draw: 6 and 8, less 1", y.gain(), 6);
    due("the others cost as much", y.neighbour(0, 12, 0), 0);
    for (int i = 1; i < 8; i++) y.change(i, MARK, 99);
    due("the others are dear", y.neighbour(0, 12, 0), 14);
    due("nor for 12, if it costs 13", y.neighbour(0, 12, 1), 12);
  }

  private static void quicks() {
    promise = 39;
    BootSale x = new BootSale();
    due("thing", x.quick(THING, 0, 10), 20);
    due("cut", x.quick(THING, 0, 49), 98);
    due("most", x.quick(THING, 0, 50), -1);
    due("sought", x.quick(SOUGHT, 9, 9), 10);
    due("sought at most", x.quick(SOUGHT, 0, 89), 99);
    due("sought too much", x.quick(SOUGHT, 0, 90), -1);
    due("drawing is as a thing", x.quick(DRAWING, 0, 10), 20);
    due("small is as a thing", x.quick(SMALL, 0, 10), 20);
    due("doubtful", x.quick(DOUBTFUL, 5, 9), 20);
    due("doubtful by nine", x.quick(DOUBTFUL, 9, 8), 89);
    due("boxed", x.quick(BOXED, 6, 6), 12);
    due("boxed, more than a", x.quick(BOXED, 6, 7), -1);
    due("boxed, a 0", x.quick(BOXED, 0, 0), 1);
    due("kind 6", x.quick(6, 0, 0), BAD);
    due("kind -1", x.quick(-1, 0, 0), BAD);
    due("a 10", x.quick(0, 10, 0), BAD);
    due("a -1", x.quick(0, -1, 0), BAD);
    due("v 100", x.quick(0, 0, 100), BAD);
    due("v -1", x.quick(0, 0, -1), BAD);
    due("NONE isn't refused", x.status(12), 6);
  }

  private static void worths() {
    BootSale x = market();
    promise = 40;
    // without 0: the dealer takes 2 for 30, the family 1 for 6: 36
    due("worthy 0", x.worthy(0), -24);
    // without 1: 0 and 2 are on, the dealer takes 2 for 30, the family 0 for 11: 41
    due("worthy 1", x.worthy(1), -29);
    // without 2: 17
    due("worthy 2", x.worthy(2), -5);
    due("thing 3", x.worthy(3), FAR + BAD);
    due("thing -1", x.worthy(-1), FAR + BAD);
    due("nothing is changed", x.gain(), 12);
    promise = 43;
    due("dearest", x.dearest(), 2);
    x.clear();
    x.ask(TIP, 0);
    due("all the same: the first", x.dearest(), 0);
    due("no things", new BootSale().dearest(), STUCK);
    BootSale y = new BootSale();
    y.dearest();
    due("counted", y.status(15), 1);
  }

  private static void numbers() {
    BootSale x = market();
    promise = 41;
    x.show(0, 0);
    x.show(1, 1);
    x.show(2, 2);
    due("one and the same", x.swap(1, 1), 0);
    due("two", x.swap(0, 2), 1);
    due("the thing", x.thingOf(0, 1), 40);
    due("its mark", x.thingOf(0, 5), 30);
    due("the other", x.thingOf(2, 1), 20);
    due("the shelf follows", x.holds(0), 12);
    due("the shelf stays", x.holds(1), 11);
    due("the shelf follows", x.holds(2), 10);
    due("thing 3", x.swap(0, 3), BAD);
    due("thing -1", x.swap(-1, 0), BAD);
    due("3 and 3", x.swap(3, 3), BAD);
    x.swap(0, 2);
    promise = 42;
    // 2 ahead: the dealer takes 2 for 30; then 0 and 1 are on, the family takes 0 for 11, the last one 1 for 1
    due("ahead 2", x.ahead(2), 30);
    due("ahead 0", x.ahead(0), 0);
    // 1, 0 are on as before; the dealer takes 0
    due("ahead 1", x.ahead(1), 0);
    due("nothing is changed", x.thingOf(0, 1), 20);
    due("nothing is changed", x.holds(2), 12);
    due("thing 3", x.ahead(3), FAR + BAD);
    due("thing -1", x.ahead(-1), FAR + BAD);
    x.swap(0, 1);
    x.swap(1, 2);
    due("1, 2, 0: as dear", x.gain(), 42);
    due("below 0", x.ahead(2), -30);
    threeAhead();
  }

  /** Those ahead of it come one behind, in their order. */
  private static void threeAhead() {
    promise = 42;
    BootSale x = new BootSale();
    x.ask(FEET, 1);
    x.ask(TIP, 0);
    for (int i = 0; i < 4; i++) x.thing(THING, 90, 1, 10 + i, 0);
    x.buyer(6, FAMILY, 99);
    x.buyer(6, FAMILY, 99);
    due("as it is", x.gain(), 21);
    due("three and the first", x.ahead(3), 2);
    due("one and the first", x.ahead(1), 0);
    due("two and the first", x.ahead(2), 1);
  }

  private static void hours() {
    promise = 44;
    BootSale x = market();
    due("six: 11, seven: 6", x.hour(), 0);
    x.change(1, MARK, 0);
    x.change(1, OWN, 0);
    x.clear();
    due("none: the first", x.hour(), 0);
    x.buyer(2, FAMILY, 10);
    x.buyer(4, FAMILY, 99);
    x.buyer(4, FAMILY, 99);
    due("four", x.hour(), 4);
    BootSale y = new BootSale();
    for (int i = 0; i < 3; i++) y.thing(THING, 50, 1, 0, 0);
    for (int i = 0; i < 3; i++) y.change(i, MARK, 9);
    y.change(2, MARK, 18);
    y.buyer(3, FAMILY, 99);
    y.buyer(3, FAMILY, 99);
    y.buyer(5, FAMILY, 99);
    due("18 and 18: the first", y.hour(), 3);
    y.change(2, MARK, 19);
    due("18 and 19", y.hour(), 5);
    y.change(1, OWN, 0);
    y.change(2, OWN, 40);
    y.clear();
    y.buyer(5, LAST, 9);
    y.buyer(6, FAMILY, 99);
    y.change(0, FROM, 7);
    y.change(1, FROM, 5);
    y.change(2, FROM, 6);
    y.change(2, OWN, 30);
    due("noon", y.hour(), 6);
  }

  private static void toldMarks() {
    BootSale x = market();
    promise = 45;
    due("nothing", x.judge(0), NOTHING);
    due("shelf 8", x.judge(8), BAD);
    x.row(0, 3, 2);
    due("fewer", x.judge(0), BAD);
    x.row(0, 3, 4);
    x.set(0, 0, 99);
    x.set(0, 1, 100);
    x.set(0, 2, -1);
    x.set(0, 3, 1000);
    due("100", x.judge(0), 1);
    x.set(0, 1, 0);
    due("-1", x.judge(0), 2);
    x.set(0, 2, 1L << 32);
    due("2 to the 32nd", x.judge(0), 2);
    promise = 46;
    due("stuck", x.told(0), FAR + STUCK);
    promise = 47;
    due("stuck", x.marks(0), STUCK);
    x.set(0, 2, 30);
    promise = 45;
    due("what is behind does not count", x.judge(0), -1);
    promise = 46;
    // 99, 0 (own 1), 30: the dealer takes 1 for 1, the family none of 99 and 30, the last one 0 for 2
    due("told", x.told(0), -2);
    due("nothing is changed", x.gain(), 12);
    promise = 47;
    due("marks", x.marks(0), 3);
    due("gain then", x.gain(), -2);
    due("mark 0", x.thingOf(0, 5), 99);
    due("mark 2", x.thingOf(2, 5), 30);
    x.show(1, 0);
    x.row(3, 0, 2);
    int[] s = {8, -1, 1, 2, 3};
    int[] want = {BAD, BAD, OTHER, NOTHING, BAD};
    for (int i = 0; i < s.length; i++) {
      promise = 45;
      due("judge " + s[i], x.judge(s[i]), want[i]);
      promise = 46;
      due("told " + s[i], x.told(s[i]), FAR + want[i]);
      promise = 47;
      due("marks " + s[i], x.marks(s[i]), want[i]);
    }
    due("STUCK counted", x.status(15), 2);
    BootSale y = new BootSale();
    y.row(0, 4, 0);
    promise = 45;
    due("no things, no elements", y.judge(0), -1);
    promise = 46;
    due("no things, no elements", y.told(0), 0);
    promise = 47;
    due("no things, no elements", y.marks(0), 0);
  }

  private static void inTruth() {
    promise = 48;
    BootSale x = market();
    for (int s = 0; s < 3; s++) x.show(s, s);
    x.row(3, 1, 5);
    x.show(4, 2);
    x.thing(SMALL, 7, 9, 7, 0);
    x.show(5, 3);
    due("gain", x.morning(), 3);
    due("things", x.status(0), 2);
    due("buyers", x.status(1), 0);
    due("coin", x.status(6), 3);
    due("mornings", x.status(7), 1);
    due("moved up", x.thingOf(0, 1), 40);
    due("moved up with its mark", x.thingOf(0, 5), 30);
    due("moved up", x.thingOf(1, 1), 7);
    due("gone", x.thingOf(2, 1), BAD);
    int[] holds = {-1, -1, 10, 1, 10, 11, -1, -1};
    for (int s = 0; s < 8; s++) due("holds " + s, x.holds(s), holds[s]);
    due("again", x.morning(), -14);
    due("coin", x.status(6), -11);
    due("mornings", x.status(7), 2);
    due("feet stay", x.status(2), 9);
    due("room for more", x.thing(0, 1, 1, 0, 0), 2);
    BootSale y = new BootSale();
    due("nothing", y.morning(), 0);
    due("mornings", y.status(7), 1);
  }

  private static void draws() {
    promise = 49;
    BootSale x = new BootSale();
    due("n 0", x.draw(0), BAD);
    due("n 25", x.draw(25), BAD);
    due("n -1", x.draw(-1), BAD);
    due("two", x.draw(2), 2);
    int seed = 1;
    int[][] drawn = new int[2][3];
    int[] below = {7, 4, 60};
    for (int i = 0; i < 6; i++) {
      seed = seed * 1103515245 + 12345;
      drawn[i / 3][i % 3] = (seed >>> 16) % below[i % 3] + (i % 3 == 2 ? 1 : 0);
    }
    due("seed", x.status(9), seed);
    int first = drawn[1][0] < drawn[0][0] ? 1 : 0;
    for (int what = 0; what < 3; what++) {
      due("first", x.buyerOf(0, what), drawn[first][what]);
      due("second", x.buyerOf(1, what), drawn[1 - first][what]);
    }
    due("the rest", x.draw(24), 22);
    int full = x.status(9);
    due("full", x.draw(5), 0);
    due("no draw for none", x.status(9), full);
    for (int i = 1; i < 24; i++) due("by hours", x.buyerOf(i, 0) >= x.buyerOf(i - 1, 0) ? 1 : 0, 1);
    promise = 52;
    due("seed", x.seed(-5), full);
    due("seed again", x.seed(MIN), -5);
    due("seed is", x.status(9), MIN);
    x.clear();
    promise = 49;
    // the upper sixteen bits have no sign: 0x8000 at first for this one
    x.seed((int) ((0x80000000L - 12345) * 4005161829L));
    x.draw(1);
    due("seed with the sign bit: hour of 32768 below 7", x.buyerOf(0, 0), 32768 % 7);
  }

  private static void images() {
    BootSale x = market();
    promise = 54;
    due("nothing kept", x.back(), STUCK);
    x.ask(FALL, 3);
    x.seed(77);
    x.morning();
    x.buyer(2, FAMILY, 8);
    x.row(0, 2, 2);
    x.set(0, 0, 5);
    x.feed('t');
    x.show(1, 0);
    promise = 53;
    due("image", x.image(), 1);
    int coin = x.status(6);
    x.change(0, MARK, 1);
    x.change(0, FROM, 3);
    x.ask(FEET, 30);
    x.ask(FALL, 9);
    x.ask(FRIEND, 1);
    x.ask(TIP, 9);
    x.seed(5);
    x.thing(0, 5, 1, 0, 0);
    x.show(2, 0);
    x.draw(4);
    x.morning();
    x.morning();
    x.feed('i');
    x.set(0, 1, 6);
    x.buyer(7, 0, 0);
    promise = 54;
    for (int time = 0; time < 2; time++) {
      due("back", x.back(), 1);
      int[] want = {1, 1, 9, 3, 0, 1, coin, 1, 2, 77, 1, -1, 1, 0, 0, 1, 0};
      for (int what = 0; what <= 16; what++) due("status " + what, x.status(what), want[what]);
      due("mark", x.thingOf(0, 5), 30);
      due("from", x.thingOf(0, 6), 0);
      due("buyer", x.buyerOf(0, 2), 8);
      due("row stays", x.element(0, 0), 5);
      due("row stays as it is", x.element(0, 1), 6);
      due("shelf with a thing", x.holds(1), -1);
      due("shelf with a thing", x.holds(2), -1);
      x.change(0, MARK, 9);
      x.clear();
      x.seed(4);
      x.show(1, 0);
      x.show(2, 0);
    }
    x.image();
    x.seed(8);
    x.back();
    due("the newer image", x.status(9), 4);
  }

  private static void statuses() {
    promise = 55;
    BootSale x = market();
    x.row(0, 0, 0);
    x.show(1, 0);
    x.ask(FEET, 11);
    x.ask(FALL, 2);
    x.ask(FRIEND, 1);
    x.ask(TIP, 4);
    x.feed(1);
    x.seed(-9);
    int[] want = {3, 3, 11, 2, 1, 4, 0, 0, 1, -9, 2, -1, 0, 0, 0, 0, 0};
    for (int what = 0; what <= 16; what++) due("status " + what, x.status(what), want[what]);
    int[] others = {-1, 11, 17, MAX, MIN};
    for (int what : others) due("another what", x.status(what), -1);
    due("that isn't refused", x.status(12), 0);
    x.show(1, -1);
    due("shelves", x.status(10), 1);
  }

  private static long print(BootSale x) {
    long sum = 0;
    for (int what = 0; what <= 10; what++) sum = sum * 31 + x.status(what);
    for (int thing = 0; thing < x.status(0); thing++) {
      for (int what = 0; what < 7; what++) sum = sum * 31 + x.thingOf(thing, what);
    }
    for (int place = 0; place < x.status(1); place++) {
      for (int what = 0; what < 3; what++) sum = sum * 31 + x.buyerOf(place, what);
    }
    for (int s = 0; s < 8; s++) {
      sum = sum * 31 + x.holds(s);
      for (int i = 0; i < 4; i++) sum = sum * 31 + x.element(s, i);
    }
    return sum;
  }

  /** Each call with numbers that may not be, and that the object then is as it was. */
  private static void refusalsChangeNothing() {
    promise = 55;
    BootSale x = market();
    x.row(0, 2, 4);
    x.set(0, 1, 500);
    x.show(1, 2);
    x.feed('z');
    long was = print(x);
    int b = 9999;
    long[] far = {x.row(b, b, b), x.set(b, b, b), x.copy(b, b, b, b, b), x.show(b, b), x.says(b, b), x.thing(b, b, b, b, b),
        x.buyer(b, b, b), x.buyers(b, b), x.change(b, b, b), x.ask(b, b), x.feed(b), x.thingOf(b, b), x.buyerOf(b, b),
        x.price(b, b), x.on(b), x.pays(b, b, b), x.buys(b), x.comes(b), x.who(b), x.bestMark(b), x.bestFrom(b),
        x.marked(b) - FAR, x.offer(b, b, b), x.least(b, b), x.rain(b) - FAR, x.neighbour(b, b, b) - FAR, x.quick(b, b, b),
        x.worthy(b) - FAR, x.swap(b, b), x.ahead(b) - FAR, x.judge(b), x.told(b) - FAR, x.marks(b), x.draw(b), x.sum(b)};
    for (int i = 0; i < far.length; i++) due("far call " + i, far[i], BAD);
    due("counted", x.status(12), far.length);
    due("as it was", print(x), was);
    due("marks that may not be", x.marks(0), STUCK);
    due("marks of a thing", x.marks(1), OTHER);
    due("buyers of what may not be", x.buyers(0, 3), BAD);
    due("as it was", print(x), was);
    for (int what = 13; what <= 16; what++) due("counted", x.status(what), what == 13 || what == 15 ? 1 : 0);
  }
}

import java.util.ArrayList;
import java.util.List;
import java.util.function.Supplier;

/** Promises 45 to 55: told MARKS, a MORNING in truth, draws, sums, what is kept, what is counted. */
final class TruthPromises extends Check {
  static void all() {
    judge();
    told();
    marks();
    morning();
    draw();
    sumClearSeed();
    image();
    back();
    status();
  }

  /** The market, and on SHELF 0 a ROW of longs. */
  private static Supplier<BootSale> row(long... elements) {
    return () -> {
      BootSale x = Stands.stand();
      x.row(0, LONGS, elements.length);
      for (int i = 0; i < elements.length; i++) x.set(0, i, elements[i]);
      return x;
    };
  }

  private static void judge() {
    promise(45, "Where a told row of MARKS in SHELF s may not be; NONE.", () -> {
      changesNothing("the edges may be", row(0, 99, 99), x -> x.judge(0), NONE);
      changesNothing("the first", row(100, 100, 100), x -> x.judge(0), 0);
      changesNothing("the second", row(99, -1, 100), x -> x.judge(0), 1);
      changesNothing("the last", row(99, 0, 1L << 32), x -> x.judge(0), 2);
      changesNothing("behind the last", row(99, 0, 9, 100, -1), x -> x.judge(0), NONE);
      changesNothing("40 elements", Stands::stand, x -> x.judge(3), NONE);
      BootSale x = new BootSale();
      x.row(0, BYTES, 0);
      due("no THINGS, no elements", x.judge(0), NONE);
      due("that isn't refused", x.status(12), 0);
    });
    promise(45, "BAD SHELF;", () -> {
      for (int s : outside(0, 7)) bad("SHELF " + s, x -> x.judge(s));
    });
    promise(45, "OTHER;", () -> refused("a THING", Stands::stand, x -> x.judge(1), OTHER));
    promise(45, "NOTHING;", () -> {
      refused("NOTHING", Stands::stand, x -> x.judge(2), NOTHING);
      refused("NOTHING, no THINGS", Stands::empty, x -> x.judge(7), NOTHING);
    });
    promise(45, "BAD: fewer elements.", () -> {
      refused("none for three", Stands::stand, x -> x.judge(4), BAD);
      refused("two for three", row(0, 0), x -> x.judge(0), BAD);
      refused("two for three, one may not be", row(100, 0), x -> x.judge(0), BAD);
      refused("seven for eight", () -> {
        BootSale x = Stands.eightThings();
        x.row(1, BYTES, 7);
        return x;
      }, x -> x.judge(1), BAD);
    });
  }

  private static void told() {
    promise(46, "GAIN by it.", () -> {
      changesNothing("all 0", row(0, 0, 0), x -> x.told(0), 8);
      changesNothing("all 99", row(99, 99, 99), x -> x.told(0), -6);
      changesNothing("as they are", row(11, 6, 30, 100), x -> x.told(0), 12);
      BootSale x = new BootSale();
      x.row(0, BYTES, 0);
      due("no THINGS, no elements", x.told(0), 0);
    });
    promise(46, "-1000002; -1000003; -1000004; -1000002 likewise;", () -> {
      for (int s : outside(0, 7)) refusedFar("SHELF " + s, Stands::stand, x -> x.told(s), BAD);
      refusedFar("a THING", Stands::stand, x -> x.told(1), OTHER);
      refusedFar("NOTHING", Stands::stand, x -> x.told(2), NOTHING);
      refusedFar("none for three", Stands::stand, x -> x.told(4), BAD);
      refusedFar("two for three", row(0, 0), x -> x.told(0), BAD);
      refusedFar("two for three, one may not be", row(100, 0), x -> x.told(0), BAD);
    });
    promise(46, "-1000005: it may not be.", () -> {
      refusedFar("the first", row(100, 0, 0), x -> x.told(0), STUCK);
      refusedFar("the last", row(0, 0, -1), x -> x.told(0), STUCK);
      refusedFar("cut to an int it might be", row(0, 1L << 32, 0), x -> x.told(0), STUCK);
    });
  }

  private static void marks() {
    promise(47, "The THINGS get these MARKS: how many.", () -> {
      BootSale x = row(99, 0, 30, 100).get();
      due("three", x.marks(0), 3);
      int[] want = {99, 0, 30};
      for (int thing = 0; thing < 3; thing++) due("MARK of " + thing, x.thingOf(thing, 5), want[thing]);
      due("none is refused", x.status(12) + x.status(15), 0);
      BootSale y = new BootSale();
      y.row(0, BYTES, 0);
      due("no THINGS, no elements", y.marks(0), 0);
      BootSale z = Stands.eightThings();
      z.row(1, INTS, 8);
      for (int i = 0; i < 8; i++) z.set(1, i, 90 + i);
      due("eight", z.marks(1), 8);
      for (int i = 0; i < 8; i++) due("MARK of " + i, z.thingOf(i, 5), 90 + i);
    });
    promise(47, "BAD; OTHER; NOTHING; BAD;", () -> {
      for (int s : outside(0, 7)) bad("SHELF " + s, x -> x.marks(s));
      refused("a THING", Stands::stand, x -> x.marks(1), OTHER);
      refused("NOTHING", Stands::stand, x -> x.marks(2), NOTHING);
      refused("none for three", Stands::stand, x -> x.marks(4), BAD);
      refused("two for three", row(0, 0), x -> x.marks(0), BAD);
      refused("two for three, one may not be", row(100, 0), x -> x.marks(0), BAD);
    });
    promise(47, "STUCK likewise.", () -> {
      refused("the first", row(100, 0, 0), x -> x.marks(0), STUCK);
      refused("the last: not even the others are put", row(0, 0, -1), x -> x.marks(0), STUCK);
      refused("cut to an int it might be", row(0, 1L << 32, 0), x -> x.marks(0), STUCK);
    });
  }

  private static void morning() {
    promise(48, "A MORNING in truth: GAIN", () -> {
      BootSale x = Stands.stand();
      due("GAIN", x.morning(), 12);
      due("COIN", x.status(6), 42 + 12);
      due("MORNINGS", x.status(7), 3);
      due("things", x.status(0), 1);
      due("that one", x.thingOf(0, 1), 40);
      due("buyers", x.status(1), 0);
      int[] settings = {9, 0, 0, 1};
      for (int what = 0; what < 4; what++) due("setting " + what, x.status(2 + what), settings[what]);
      due("THE TAPE", x.status(8), 6);
      due("SEED", x.status(9), 77);
      due("one without BUYERS, below 0", x.morning(), -5);
      due("COIN", x.status(6), 49);
      due("none is refused", x.status(12), 0);
      BootSale y = new BootSale();
      due("nothing at all", y.morning(), 0);
      due("is a MORNING, too", y.status(7), 1);
    });
    promise(48, "(SHELVES with THINGS that are sold hold NOTHING then, others the same ones by their new numbers).", () -> {
      BootSale x = Stands.stand();
      x.show(2, 1);
      x.show(6, 2);
      x.show(7, 1);
      x.morning();
      // 0 and 1 are sold, 2 becomes 0; the ROWS stay
      int[] want = {INTS, 10, NONE, LONGS, BYTES, NONE, 10, NONE};
      for (int s = 0; s < 8; s++) due("SHELF " + s, x.holds(s), want[s]);
      due("an element", x.element(0, 2), 500);
      due("what it says", x.says(1, SOUGHT), 36);
      BootSale y = Stands.alike(8, 30);
      for (int i = 0; i < 8; i++) y.show(i, i);
      for (int unsold : new int[] {0, 3, 4, 7}) y.change(unsold, MARK, 99);
      for (int i = 0; i < 4; i++) y.buyer(0, FAMILY, 99);
      y.morning();
      int[] moved = {10, NONE, NONE, 11, 12, NONE, NONE, 13};
      for (int s = 0; s < 8; s++) due("SHELF " + s, y.holds(s), moved[s]);
      due("those that hold something", y.status(10), 4);
      // the first and the last SHELF, with a THING that is sold and with one that moves up
      BootSale z = Stands.alike(2, 30);
      z.change(1, MARK, 99);
      z.show(0, 0);
      z.show(1, 1);
      z.show(6, 1);
      z.show(7, 0);
      z.buyer(0, FAMILY, 99);
      z.morning();
      int[] ends = {NONE, 10, NONE, NONE, NONE, NONE, 10, NONE};
      for (int s = 0; s < 8; s++) due("SHELF " + s, z.holds(s), ends[s]);
    });
  }

  private static void draw() {
    promise(49, "BY DRAWS n (1 to 24) BUYERS come to the list, until it is full: how many.", () -> {
      BootSale x = new BootSale();
      due("one", x.draw(1), 1);
      due("how many", x.status(1), 1);
      due("24, where 23 have room", x.draw(24), 23);
      due("how many", x.status(1), 24);
      changesNothing("a full list", Stands::fullList, y -> y.draw(24), 0);
      changesNothing("a full list, one", Stands::fullList, y -> y.draw(1), 0);
      due("24", new BootSale().draw(24), 24);
      // three draws for each who comes, none for those who don't
      BootSale y = new BootSale();
      for (int i = 0; i < 21; i++) y.buyer(0, DEALER, 9);
      due("three have room", y.draw(5), 3);
      due("SEED", y.status(9), -1084965762);
    });
    promise(49, "BAD.", () -> {
      for (int n : outside(1, 24)) {
        bad(n + " BUYERS", x -> x.draw(n));
        refused(n + " BUYERS, a full list", Stands::fullList, x -> x.draw(n), BAD);
      }
    });
  }

  private static void sumClearSeed() {
    promise(50, "WORTH of all THINGS (what 0), PURSES of all BUYERS (1).", () -> {
      due("no THINGS", new BootSale().sum(0), 0);
      due("no BUYERS", new BootSale().sum(1), 0);
      due("10 to 17", Stands.eightThings().sum(0), 108);
      due("1 to 24", Stands.fullList().sum(1), 300);
      BootSale x = new BootSale();
      for (int i = 0; i < 8; i++) x.thing(THING, 99, 1, 0, 0);
      for (int i = 0; i < 24; i++) x.buyer(0, DEALER, 99);
      due("the most WORTH", x.sum(0), 792);
      due("the most PURSES", x.sum(1), 2376);
      x.clear();
      due("all BUYERS are gone", x.sum(1), 0);
    });
    promise(50, "BAD.", () -> {
      for (int what : outside(0, 1)) bad("what " + what, x -> x.sum(what));
    });
    promise(51, "All BUYERS go: how many there were.", () -> {
      BootSale x = Stands.fullList();
      due("24", x.clear(), 24);
      due("how many", x.status(1), 0);
      due("no more", x.clear(), 0);
      due("there is room", x.buyer(6, LAST, 99), 0);
      due("none of the old ones", x.buyerOf(1, 0), BAD);
      BootSale y = Stands.stand();
      due("three", y.clear(), 3);
      due("THINGS stay", y.status(0), 3);
      due("COIN stays", y.status(6), 42);
      due("MORNINGS stay", y.status(7), 2);
    });
    promise(52, "SEED becomes v: the one ahead.", () -> {
      BootSale x = new BootSale();
      due("the first", x.seed(MIN), 1);
      due("the least", x.seed(MAX), MIN);
      due("the greatest", x.seed(0), MAX);
      due("0", x.seed(-2), 0);
      // an answer of -2 is no refusal
      due("below 0", x.seed(5), -2);
      due("SEED", x.status(9), 5);
      due("none is refused", x.status(12), 0);
    });
  }

  private static void image() {
    promise(53, "All is kept, but THE TAPE, SHELVES and REFUSALS: 1.", () -> {
      BootSale x = Stands.stand();
      due("kept", x.image(), 1);
      List<String> was = kept(x);
      changeAll(x);
      due("back", x.back(), 1);
      due("all", kept(x).equals(was) ? 1 : 0, 1);
      due("THE TAPE is as it became", x.status(8), 8);
      due("a SHELF, too", x.element(0, 1), 77);
      due("one that held NOTHING, too", x.holds(7), BOOLEANS);
      due("REFUSALS, too", x.status(12), 1);
      due("THE TAPE's bytes", x.sale(), 1);
      due("feet 12", x.status(2), 12);
      // nothing of what came later is kept: what an image has kept stays so till the next one
      BootSale y = new BootSale();
      y.image();
      y.seed(8);
      due("an empty one", y.back(), 1);
      due("SEED", y.status(9), 1);
      y.seed(9);
      due("another", y.image(), 1);
      y.seed(10);
      y.back();
      due("SEED of the newer one", y.status(9), 9);
    });
  }

  /** What an image keeps, as it is told. */
  private static List<String> kept(BootSale x) {
    List<String> all = new ArrayList<>();
    for (int what : new int[] {0, 1, 2, 3, 4, 5, 6, 7, 9}) all.add("status " + what + ": " + x.status(what));
    for (int thing = 0; thing < x.status(0); thing++) {
      for (int what = 0; what < 7; what++) all.add("thing " + thing + ": " + x.thingOf(thing, what));
    }
    for (int place = 0; place < x.status(1); place++) {
      for (int what = 0; what < 3; what++) all.add("buyer " + place + ": " + x.buyerOf(place, what));
    }
    return all;
  }

  /** Every number of it becomes another; 0 and 1 are sold at last, the buyers gone. */
  private static void changeAll(BootSale x) {
    x.change(2, WORTH, 77);
    x.change(2, OWN, 7);
    x.change(2, MARK, 77);
    x.change(2, FROM, 7);
    x.ask(FEET, 29);
    x.ask(FALL, 13);
    x.ask(FRIEND, 1);
    x.ask(TIP, 8);
    x.thing(BOXED, 3, 3, 3, 3);
    x.swap(0, 3);
    x.draw(5);
    x.morning();
    x.feed('2');
    x.feed(' ');
    x.set(0, 1, 77);
    x.row(7, BOOLEANS, 3);
    x.buyer(7, 0, 9);
    x.seed(4);
  }

  private static void back() {
    promise(54, "All is again as it was kept (SHELVES with THINGS hold NOTHING): 1.", () -> {
      BootSale x = Stands.stand();
      // the stand's image: one THING, one BUYER, 5 feet, COIN 9 of one MORNING, SEED -7
      for (int time = 0; time < 2; time++) {
        due("back", x.back(), 1);
        int[] want = {1, 1, 5, 0, 0, 1, 9, 1, 6, -7};
        for (int what = 0; what < 10; what++) due("status " + what, x.status(what), want[what]);
        int[] thing = {SMALL, 33, 2, 3, 4, 33, 0};
        for (int what = 0; what < 7; what++) due("thing, " + what, x.thingOf(0, what), thing[what]);
        int[] buyer = {3, LOOKER, 33};
        for (int what = 0; what < 3; what++) due("buyer, " + what, x.buyerOf(0, what), buyer[what]);
        int[] holds = {INTS, NONE, NONE, LONGS, BYTES, NONE, NONE, NONE};
        for (int s = 0; s < 8; s++) due("SHELF " + s, x.holds(s), holds[s]);
        due("a ROW's element", x.element(3, 39), 5);
        x.change(0, WORTH, 1);
        x.thing(THING, 9, 1, 0, 0);
        x.clear();
        x.ask(FEET, 30);
        x.seed(3);
        x.show(1, 0);
        x.show(5, 1);
        x.morning();
      }
      BootSale y = Stands.eightThings();
      y.image();
      y.show(7, 0);
      due("nothing has changed", y.back(), 1);
      due("but THINGS are taken from SHELVES", y.status(10), 0);
      due("eight THINGS", y.status(0), 8);
      BootSale z = Stands.fullList();
      z.image();
      z.clear();
      z.back();
      due("24 BUYERS", z.status(1), 24);
      due("the last", z.buyerOf(23, 2), 24);
      due("REFUSALS stay", z.thing(9, 9, 9, 9, 9), BAD);
      z.back();
      due("REFUSALS stay", z.status(12), 1);
    });
    promise(54, "STUCK: nothing was.", () -> {
      refused("a new one", Stands::empty, BootSale::back, STUCK);
      refused("the market", Stands::market, BootSale::back, STUCK);
      refused("a SHELF with a THING keeps it", Stands::eightThings, BootSale::back, STUCK);
      BootSale x = new BootSale();
      due("nothing was", x.back(), STUCK);
      x.image();
      due("something was", x.back(), 1);
      due("one was refused", x.status(15), 1);
    });
  }

  private static void status() {
    promise(55, "THINGS (0), BUYERS (1), FEET (2), FALL (3), FRIEND (4), TIP (5), COIN (6), MORNINGS in truth (7), "
        + "THE TAPE's size (8), SEED (9), SHELVES that hold something (10);", () -> {
      int[] first = {0, 0, 9, 0, 0, 1, 0, 0, 0, 1, 0};
      for (int what = 0; what <= 10; what++) due("at first, " + what, new BootSale().status(what), first[what]);
      int[] then = {3, 3, 9, 0, 0, 1, 42, 2, 6, 77, 5};
      for (int what = 0; what <= 10; what++) due("then, " + what, Stands.stand().status(what), then[what]);
      due("eight THINGS", Stands.eightThings().status(0), 8);
      due("24 BUYERS", Stands.fullList().status(1), 24);
      due("250 bytes", Stands.fullTape().status(8), 250);
      BootSale x = Stands.eightThings();
      for (int s = 0; s < 8; s++) x.row(s, BYTES, 0);
      due("eight SHELVES", x.status(10), 8);
      int[][] most = {{FEET, 30}, {FALL, 14}, {FRIEND, 1}, {TIP, 9}};
      for (int[] m : most) {
        x.ask(m[0], m[1]);
        due("the most", x.status(2 + m[0]), m[1]);
      }
    });
    promise(55, "12 to 16: REFUSALS -2 to -6.", () -> {
      BootSale x = Stands.eightThings();
      for (int i = 0; i < 1; i++) x.ask(4, 0);
      for (int i = 0; i < 2; i++) x.set(0, 0, 0);
      for (int i = 0; i < 3; i++) x.judge(1);
      for (int i = 0; i < 4; i++) x.back();
      for (int i = 0; i < 5; i++) x.thing(THING, 9, 1, 0, 0);
      for (int what = 12; what <= 16; what++) due("REFUSALS " + (10 - what), x.status(what), what - 11);
    });
    promise(55, "NONE another what (COIN may be below 0).", () -> {
      for (int what : new int[] {-1, 11, 17, MAX, MIN}) changesNothing("what " + what, Stands::stand, x -> x.status(what), NONE);
      BootSale x = Stands.alike(1, 30);
      x.ask(TIP, 1);
      x.morning();
      due("COIN -1 is no NONE", x.status(6), -1);
      x.ask(TIP, 9);
      x.morning();
      due("COIN below that", x.status(6), -10);
    });
  }
}

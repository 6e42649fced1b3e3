/** Promises 1 to 8: the new object, and what SHELVES hold. */
final class ShelfPromises extends Check {
  static void all() {
    newObject();
    row();
    set();
    copy();
    elementAndHolds();
    show();
    says();
  }

  private static void newObject() {
    promise(1, "No THINGS,", () -> {
      BootSale x = new BootSale();
      due("how many", x.status(0), 0);
      due("LEFT", x.left(), 0);
      due("ON", x.on(0), 0);
      refused("number 0", Stands::empty, y -> y.thingOf(0, 0), BAD);
    });
    promise(1, "no BUYERS;", () -> {
      due("how many", new BootSale().status(1), 0);
      due("all go", new BootSale().clear(), 0);
      refused("place 0", Stands::empty, y -> y.buyerOf(0, 0), BAD);
    });
    promise(1, "SHELVES hold NOTHING;", () -> {
      BootSale x = new BootSale();
      for (int s = 0; s < 8; s++) due("holds " + s, x.holds(s), NONE);
      due("SHELVES that hold something", x.status(10), 0);
      for (int s = 0; s < 8; s++) {
        int shelf = s;
        refused("judge", Stands::empty, y -> y.judge(shelf), NOTHING);
      }
    });
    promise(1, "THE TAPE is empty.", () -> {
      due("its size", new BootSale().status(8), 0);
      due("its size ahead", new BootSale().wipe(), 0);
      refused("it is no SALE", Stands::empty, BootSale::sale, BAD, -20);
    });
  }

  private static void row() {
    promise(2, "SHELF s holds a new ROW: 1.", () -> {
      taken("the first SHELF, no elements", Stands::stand, x -> x.row(0, BYTES, 0), 1);
      taken("the last SHELF, 40 elements", Stands::stand, x -> x.row(7, BOOLEANS, 40), 1);
      BootSale x = Stands.stand();
      due("where NOTHING was", x.row(2, SHORTS, 2), 1);
      due("holds", x.holds(2), SHORTS);
      due("where a THING was", x.row(1, INTS, 2), 1);
      due("holds", x.holds(1), INTS);
      due("where a ROW was", x.row(3, BYTES, 2), 1);
      due("holds", x.holds(3), BYTES);
      due("none of its elements", x.element(3, 39), 0);
      due("the last of two", x.set(3, 1, 9), 1);
      due("no third", x.set(3, 2, 9), BAD);
      due("longer again", x.row(3, LONGS, 40), 1);
      due("nothing of the old one", x.element(3, 1), 0);
      due("nothing of the one before", x.element(3, 39), 0);
      due("THINGS stay", x.status(0), 3);
    });
    promise(2, "BAD.", () -> {
      for (int s : outside(0, 7)) bad("SHELF " + s, x -> x.row(s, INTS, 4));
      for (int sort : outside(0, 4)) bad("SORT " + sort, x -> x.row(0, sort, 4));
      for (int n : outside(0, 40)) bad("elements " + n, x -> x.row(0, INTS, n));
      // in place of what it holds nothing comes, either
      for (int s = 0; s < 8; s++) {
        int shelf = s;
        bad("all but SHELF " + s, x -> x.row(shelf, 5, 41));
      }
    });
  }

  private static void set() {
    promise(3, "Element i of the ROW in SHELF s becomes v: 1.", () -> {
      BootSale x = Stands.stand();
      due("the first of 40", x.set(3, 0, Long.MIN_VALUE), 1);
      due("the last of 40", x.set(3, 39, Long.MAX_VALUE), 1);
      due("the first", x.element(3, 0), Long.MIN_VALUE);
      due("the last", x.element(3, 39), Long.MAX_VALUE);
      for (int i = 1; i < 39; i++) due("the others", x.element(3, i), 0);
      due("the last of four", x.set(0, 3, -1), 1);
      int[] want = {11, 7, 500, -1};
      for (int i = 0; i < 4; i++) due("other ROW", x.element(0, i), want[i]);
      x.row(7, INTS, 1);
      due("the only one, on the last SHELF", x.set(7, 0, 8), 1);
      due("it is", x.element(7, 0), 8);
    });
    promise(3, "BAD SHELF;", () -> {
      for (int s : outside(0, 7)) bad("SHELF " + s, x -> x.set(s, 0, 1));
      bad("BAD i, too", x -> x.set(8, -1, 1));
    });
    promise(3, "OTHER;", () -> {
      refused("a THING", Stands::stand, x -> x.set(1, 0, 1), OTHER);
      refused("THING 0", Stands::stand, x -> x.set(5, 0, 1), OTHER);
      refused("a THING, BAD i", Stands::stand, x -> x.set(1, -1, 1), OTHER);
    });
    promise(3, "NOTHING;", () -> {
      refused("NOTHING", Stands::stand, x -> x.set(2, 0, 1), NOTHING);
      refused("NOTHING, BAD i", Stands::stand, x -> x.set(7, -1, 1), NOTHING);
    });
    promise(3, "BAD i.", () -> {
      for (int i : outside(0, 3)) bad("i " + i + " of 4", x -> x.set(0, i, 1));
      for (int i : outside(0, 39)) bad("i " + i + " of 40", x -> x.set(3, i, 1));
      for (int i : outside(0, -1)) bad("i " + i + " of none", x -> x.set(4, i, 1));
    });
  }

  private static void copy() {
    promise(4, "n elements of the ROW in SHELF p from place i on come to places j on of that in q (as they were): n.", () -> {
      BootSale x = rows();
      due("one up, over themselves", x.copy(0, 0, 0, 1, 5), 5);
      elements(x, 0, 1, 1, 2, 3, 4, 5);
      x = rows();
      due("one down, over themselves", x.copy(0, 0, 1, 0, 5), 5);
      elements(x, 0, 2, 3, 4, 5, 6, 6);
      x = rows();
      due("all to where they are", x.copy(0, 0, 0, 0, 6), 6);
      elements(x, 0, 1, 2, 3, 4, 5, 6);
      due("the last two to the first places", x.copy(0, 1, 4, 0, 2), 2);
      elements(x, 1, 5, 6, 0);
      due("the first to the last place", x.copy(0, 1, 0, 2, 1), 1);
      elements(x, 1, 5, 6, 1);
      elements(x, 0, 1, 2, 3, 4, 5, 6);
      due("all three to the last places", x.copy(1, 0, 0, 3, 3), 3);
      elements(x, 0, 1, 2, 3, 5, 6, 1);
      due("none", x.copy(0, 1, 0, 0, 0), 0);
      due("none, from the last place to the last", x.copy(0, 1, 5, 2, 0), 0);
      elements(x, 1, 5, 6, 1);
      BootSale y = new BootSale();
      for (int s : new int[] {0, 7}) y.row(s, LONGS, 40);
      for (int i = 0; i < 40; i++) y.set(0, i, Long.MAX_VALUE - i);
      due("40", y.copy(0, 7, 0, 0, 40), 40);
      for (int i = 0; i < 40; i++) due("element " + i, y.element(7, i), Long.MAX_VALUE - i);
    });
    promise(4, "BAD SHELVES;", () -> {
      for (int s : outside(0, 7)) {
        bad("from " + s, x -> x.copy(s, 0, 0, 0, 1));
        bad("to " + s, x -> x.copy(0, s, 0, 0, 1));
        bad("from " + s + ", to a THING", x -> x.copy(s, 1, 0, 0, 1));
        bad("from a THING, to " + s, x -> x.copy(1, s, 0, 0, 1));
        bad("from " + s + ", to NOTHING", x -> x.copy(s, 2, 0, 0, 1));
        bad("from NOTHING, to " + s, x -> x.copy(2, s, 0, 0, 1));
      }
    });
    promise(4, "OTHER (also ROWS of two SORTS, if both hold something);", () -> {
      int[][] shelves = {{1, 0}, {0, 1}, {1, 5}, {1, 1}, {0, 3}, {3, 0}, {3, 4}, {4, 0}};
      for (int[] s : shelves) {
        refused("from " + s[0] + " to " + s[1], Stands::stand, x -> x.copy(s[0], s[1], 0, 0, 0), OTHER);
        refused("n is BAD, too", Stands::stand, x -> x.copy(s[0], s[1], 0, 0, 41), OTHER);
        refused("i and j are BAD, too", Stands::stand, x -> x.copy(s[0], s[1], -1, 99, 1), OTHER);
      }
      refused("a THING to NOTHING", Stands::stand, x -> x.copy(1, 2, 0, 0, 1), OTHER);
      refused("NOTHING to a THING", Stands::stand, x -> x.copy(2, 1, 0, 0, 1), OTHER);
    });
    promise(4, "NOTHING;", () -> {
      int[][] shelves = {{0, 2}, {2, 0}, {2, 6}, {2, 2}};
      for (int[] s : shelves) {
        refused("from " + s[0] + " to " + s[1], Stands::stand, x -> x.copy(s[0], s[1], 0, 0, 0), NOTHING);
        refused("n is BAD, too", Stands::stand, x -> x.copy(s[0], s[1], 0, 0, 41), NOTHING);
        refused("i and j are BAD, too", Stands::stand, x -> x.copy(s[0], s[1], -1, 99, 1), NOTHING);
      }
    });
    promise(4, "BAD the others.", () -> {
      // six elements in SHELF 0, three in SHELF 1
      int[][] others = {{0, 0, -1}, {0, 0, 4}, {0, 0, 41}, {0, 0, MAX}, {0, 0, MIN}, {-1, 0, 1}, {-1, 0, 0}, {0, -1, 1}, {0, -1, 0},
          {6, 0, 1}, {7, 0, 0}, {5, 0, 2}, {0, 3, 1}, {0, 4, 0}, {0, 2, 2}, {0, 1, 3}, {MAX, 0, 1}, {0, MAX, 1}, {MIN, 0, 1},
          {0, MIN, 1}, {MAX, 0, 0}, {0, MAX, 0}, {MAX, MAX, MAX}, {1, 1, MAX}, {MIN, MIN, MIN}};
      for (int[] o : others) {
        refused("i " + o[0] + ", j " + o[1] + ", n " + o[2], ShelfPromises::rows, x -> x.copy(0, 1, o[0], o[1], o[2]), BAD);
      }
      refused("one more than the source has", ShelfPromises::rows, x -> x.copy(1, 0, 0, 0, 4), BAD);
      refused("one of no elements", Stands::stand, x -> x.copy(4, 4, 0, 0, 1), BAD);
      refused("41 of 40", Stands::stand, x -> x.copy(3, 3, 0, 0, 41), BAD);
      refused("40 of 40, one up", Stands::stand, x -> x.copy(3, 3, 0, 1, 40), BAD);
    });
  }

  /** SHELF 0: INTS 1 to 6; SHELF 1: INTS, three times 0. */
  private static BootSale rows() {
    BootSale x = new BootSale();
    x.row(0, INTS, 6);
    for (int i = 0; i < 6; i++) x.set(0, i, i + 1);
    x.row(1, INTS, 3);
    return x;
  }

  private static void elements(BootSale x, int s, long... want) {
    for (int i = 0; i < want.length; i++) due("element " + i, x.element(s, i), want[i]);
  }

  private static void elementAndHolds() {
    promise(5, "Element i of the ROW;", () -> {
      BootSale x = rows();
      due("the first", x.element(0, 0), 1);
      due("the last", x.element(0, 5), 6);
    });
    promise(5, "0: none, no ROW (nothing is refused).", () -> {
      for (int i : outside(0, 5)) changesNothing("i " + i, ShelfPromises::rows, x -> x.element(0, i), 0);
      changesNothing("behind a ROW that was longer", () -> {
        BootSale x = rows();
        x.row(0, INTS, 2);
        return x;
      }, x -> x.element(0, 5), 0);
      changesNothing("of none", Stands::stand, x -> x.element(4, 0), 0);
      for (int i : outside(0, 39)) changesNothing("i " + i + " of 40", Stands::stand, x -> x.element(3, i), 0);
      changesNothing("a THING", Stands::stand, x -> x.element(1, 0), 0);
      changesNothing("NOTHING", Stands::stand, x -> x.element(2, 0), 0);
      for (int s : outside(0, 7)) changesNothing("SHELF " + s, Stands::stand, x -> x.element(s, 0), 0);
    });
    promise(6, "What SHELF s holds: NONE NOTHING, no SHELF;", () -> {
      changesNothing("NOTHING", Stands::stand, x -> x.holds(2), NONE);
      changesNothing("NOTHING in the last", Stands::stand, x -> x.holds(7), NONE);
      for (int s : outside(0, 7)) changesNothing("no SHELF", Stands::stand, x -> x.holds(s), NONE);
    });
    promise(6, "0 to 4 a ROW by its SORT;", () -> {
      BootSale x = new BootSale();
      for (int sort = 0; sort <= 4; sort++) {
        x.row(sort, sort, sort);
        due("SORT " + sort, x.holds(sort), sort);
      }
      due("no elements", x.holds(0), BYTES);
    });
    promise(6, "10 and the number of a THING.", () -> {
      BootSale x = Stands.eightThings();
      due("the last", x.holds(0), 17);
      x.show(7, 0);
      due("the first", x.holds(7), 10);
    });
  }

  private static void show() {
    promise(7, "SHELF s holds a THING, or NOTHING (thing NONE): 1.", () -> {
      taken("the first THING", Stands::eightThings, x -> x.show(0, 0), 1);
      taken("the last THING", Stands::eightThings, x -> x.show(7, 7), 1);
      taken("NOTHING", Stands::empty, x -> x.show(0, NONE), 1);
      BootSale x = Stands.stand();
      due("in place of a ROW", x.show(0, 2), 1);
      due("holds", x.holds(0), 12);
      due("no ROW", x.element(0, 0), 0);
      due("the same THING on another SHELF", x.holds(1), 12);
      due("NOTHING in place of a ROW", x.show(3, NONE), 1);
      due("holds", x.holds(3), NONE);
      due("NOTHING in place of a THING", x.show(1, NONE), 1);
      due("holds", x.holds(1), NONE);
      due("the THING is still there", x.status(0), 3);
    });
    promise(7, "BAD.", () -> {
      for (int s : outside(0, 7)) {
        bad("SHELF " + s, x -> x.show(s, 0));
        bad("SHELF " + s + ", NONE", x -> x.show(s, NONE));
      }
      for (int thing : new int[] {-2, 3, 8, MAX, MIN}) bad("thing " + thing, x -> x.show(0, thing));
      refused("no THINGS", Stands::empty, x -> x.show(0, 0), BAD);
      refused("a ninth", Stands::eightThings, x -> x.show(0, 8), BAD);
    });
  }

  private static void says() {
    promise(8, "What the THING in SHELF s, taken for one of a KIND, says: THING its WORTH;", () -> {
      for (int kind = 0; kind < 6; kind++) {
        due("the least, KIND " + kind, said(kind, 1, 0, THING), 1);
        due("the most, KIND " + kind, said(kind, 99, 9, THING), 99);
      }
    });
    promise(8, "SOUGHT, DOUBTFUL what a DEALER would PAY for it alone on the TABLE;", () -> {
      due("SOUGHT", said(SOUGHT, 99, 9, SOUGHT), 89);
      due("the least", said(SOUGHT, 1, 0, SOUGHT), 0);
      due("DOUBTFUL, taken for SOUGHT", said(DOUBTFUL, 99, 9, SOUGHT), 8);
      due("DOUBTFUL", said(DOUBTFUL, 99, 9, DOUBTFUL), 8);
      due("DOUBTFUL, a 0", said(DOUBTFUL, 99, 0, DOUBTFUL), 89);
    });
    promise(8, "DRAWING how much more others would be paid by it (1);", () -> {
      due("the least", said(DRAWING, 1, 0, DRAWING), 1);
      due("the most", said(DRAWING, 99, 9, DRAWING), 1);
    });
    promise(8, "SMALL, BOXED what a FAMILY would PAY for it alone.", () -> {
      due("SMALL", said(SMALL, 99, 0, SMALL), 99);
      due("the least", said(SMALL, 1, 0, SMALL), 1);
      due("BOXED, taken for SMALL", said(BOXED, 99, 9, SMALL), 9);
      due("BOXED", said(BOXED, 99, 9, BOXED), 9);
      due("BOXED, a 0", said(BOXED, 99, 0, BOXED), 0);
      due("BOXED, WORTH less than a", said(BOXED, 8, 9, BOXED), 8);
    });
    promise(8, "BAD SHELF, KIND;", () -> {
      for (int s : outside(0, 7)) bad("SHELF " + s, x -> x.says(s, THING));
      for (int kind : outside(0, 5)) {
        bad("KIND " + kind, x -> x.says(1, kind));
        bad("KIND " + kind + " of a ROW", x -> x.says(0, kind));
        bad("KIND " + kind + " of NOTHING", x -> x.says(2, kind));
      }
    });
    promise(8, "OTHER (also if it is of no such KIND nor of one under it);", () -> {
      refused("a ROW", Stands::stand, x -> x.says(0, THING), OTHER);
      refused("a ROW of none", Stands::stand, x -> x.says(4, THING), OTHER);
      // by KIND that is taken for: the KINDS that are no such one
      int[][] no = {{}, {0, 2, 3, 5}, {0, 1, 3, 4, 5}, {0, 1, 2, 4}, {0, 1, 2, 3, 5}, {0, 1, 2, 3, 4}};
      for (int kind = 0; kind < 6; kind++) {
        for (int is : no[kind]) {
          int taken = kind;
          refused("KIND " + is + " taken for " + kind, () -> shown(is, 9, 9), x -> x.says(0, taken), OTHER);
        }
      }
    });
    promise(8, "NOTHING.", () -> {
      refused("NOTHING", Stands::stand, x -> x.says(2, THING), NOTHING);
      refused("NOTHING any more", () -> {
        BootSale x = Stands.stand();
        x.show(1, NONE);
        return x;
      }, x -> x.says(1, SOUGHT), NOTHING);
    });
  }

  private static BootSale shown(int kind, int worth, int a) {
    BootSale x = new BootSale();
    x.thing(kind, worth, 1, 0, a);
    // another that draws, in vain: it is taken for alone
    x.thing(DRAWING, 9, 1, 0, 0);
    x.show(0, 0);
    return x;
  }

  private static long said(int kind, int worth, int a, int taken) {
    return shown(kind, worth, a).says(0, taken);
  }
}

/** Promises 9 to 18: what is told of THINGS, BUYERS and all else, by calls and by THE TAPE. */
final class TellPromises extends Check {
  static void all() {
    thing();
    buyer();
    buyers();
    changeAndAsk();
    tape();
    sale();
    thingOf();
    buyerOf();
  }

  private static void thing() {
    promise(9, "A THING: its number.", () -> {
      BootSale x = new BootSale();
      due("all the least", x.thing(0, 1, 1, 0, 0), 0);
      due("all the most", x.thing(5, 99, 9, 99, 9), 1);
      for (int n = 2; n < 8; n++) due("the next", x.thing(SMALL, n, 1, 0, 0), n);
      int[][] want = {{0, 1, 1, 0, 0, 1, 0}, {5, 99, 9, 99, 9, 99, 0}};
      for (int n = 0; n < 2; n++) {
        for (int what = 0; what < 7; what++) due("thing " + n + ", " + what, x.thingOf(n, what), want[n][what]);
      }
      // the place of one that is GONE: nothing of that one is left
      BootSale y = Stands.alike(2, 30);
      y.change(1, MARK, 99);
      y.change(1, FROM, 7);
      y.buyer(0, FAMILY, 99);
      y.morning();
      due("the number that is free", y.thing(THING, 8, 1, 0, 0), 1);
      due("its MARK", y.thingOf(1, 5), 8);
      due("its FROM", y.thingOf(1, 6), 0);
      BootSale z = new BootSale();
      z.thing(THING, 9, 1, 0, 9);
      z.change(0, FROM, 5);
      z.buyer(6, FAMILY, 9);
      z.morning();
      z.thing(THING, 8, 1, 0, 0);
      due("FROM of a new one in its place", z.thingOf(0, 6), 0);
      due("a of a new one in its place", z.thingOf(0, 4), 0);
    });
    promise(9, "BAD;", () -> {
      for (int v : outside(0, 5)) bad("KIND " + v, x -> x.thing(v, 9, 1, 0, 0));
      for (int v : outside(1, 99)) bad("WORTH " + v, x -> x.thing(0, v, 1, 0, 0));
      for (int v : outside(1, 9)) bad("ROOM " + v, x -> x.thing(0, 9, v, 0, 0));
      for (int v : outside(0, 99)) bad("OWN " + v, x -> x.thing(0, 9, 1, v, 0));
      for (int v : outside(0, 9)) bad("a " + v, x -> x.thing(0, 9, 1, 0, v));
      refused("FULL, too: KIND", Stands::eightThings, x -> x.thing(6, 9, 1, 0, 0), BAD);
      refused("FULL, too: WORTH", Stands::eightThings, x -> x.thing(0, 0, 1, 0, 0), BAD);
      refused("FULL, too: ROOM", Stands::eightThings, x -> x.thing(0, 9, 10, 0, 0), BAD);
      refused("FULL, too: OWN", Stands::eightThings, x -> x.thing(0, 9, 1, 100, 0), BAD);
      refused("FULL, too: a", Stands::eightThings, x -> x.thing(0, 9, 1, 0, 10), BAD);
    });
    promise(9, "FULL.", () -> {
      refused("a ninth", Stands::eightThings, x -> x.thing(0, 1, 1, 0, 0), FULL);
      refused("a ninth, all the most", Stands::eightThings, x -> x.thing(5, 99, 9, 99, 9), FULL);
    });
  }

  private static void buyer() {
    promise(10, "A BUYER, behind those of that HOUR: the place in the list.", () -> {
      BootSale x = new BootSale();
      due("the first", x.buyer(3, DEALER, 1), 0);
      due("behind that of its HOUR", x.buyer(3, LAST, 99), 1);
      due("ahead of all", x.buyer(0, FAMILY, 2), 0);
      due("behind all", x.buyer(6, LOOKER, 3), 3);
      due("between", x.buyer(2, DEALER, 4), 1);
      due("behind both of its HOUR", x.buyer(3, DEALER, 5), 4);
      int[][] want = {{0, 1, 2}, {2, 0, 4}, {3, 0, 1}, {3, 3, 99}, {3, 0, 5}, {6, 2, 3}};
      for (int place = 0; place < 6; place++) {
        for (int what = 0; what < 3; what++) due("buyer " + place + ", " + what, x.buyerOf(place, what), want[place][what]);
      }
      for (int n = 6; n < 23; n++) due("behind all", x.buyer(6, LAST, 9), n);
      due("the 24th, ahead of all but one", x.buyer(0, LAST, 9), 1);
    });
    promise(10, "BAD;", () -> {
      for (int v : outside(0, 6)) bad("HOUR " + v, x -> x.buyer(v, 0, 9));
      for (int v : outside(0, 3)) bad("SORT " + v, x -> x.buyer(0, v, 9));
      for (int v : outside(1, 99)) bad("PURSE " + v, x -> x.buyer(0, 0, v));
      refused("FULL, too: HOUR", Stands::fullList, x -> x.buyer(7, 0, 9), BAD);
      refused("FULL, too: SORT", Stands::fullList, x -> x.buyer(0, 4, 9), BAD);
      refused("FULL, too: PURSE", Stands::fullList, x -> x.buyer(0, 0, 0), BAD);
    });
    promise(10, "FULL.", () -> {
      refused("a 25th, the least", Stands::fullList, x -> x.buyer(0, 0, 1), FULL);
      refused("a 25th, the most", Stands::fullList, x -> x.buyer(6, 3, 99), FULL);
    });
  }

  private static void buyers() {
    promise(11, "BUYERS by n (a multiple of 3, 3 to 39) elements of the ROW in SHELF s, three each, as buyer() has them: "
        + "how many there are then.", () -> {
      BootSale x = new BootSale();
      x.buyer(3, DEALER, 7);
      fill(x, 0, INTS, 3, 1, 8, 0, 0, 1, 6, 3, 99);
      due("the first three", x.buyers(0, 3), 2);
      due("all nine, the first again", x.buyers(0, 9), 5);
      int[][] want = {{0, 0, 1}, {3, 0, 7}, {3, 1, 8}, {3, 1, 8}, {6, 3, 99}};
      for (int place = 0; place < 5; place++) {
        for (int what = 0; what < 3; what++) due("buyer " + place + ", " + what, x.buyerOf(place, what), want[place][what]);
      }
      BootSale y = thirteen(BYTES, 40);
      due("thirteen of 39 elements", y.buyers(0, 39), 13);
      y = thirteen(LONGS, 39);
      for (int i = 0; i < 11; i++) y.buyer(0, DEALER, 9);
      due("thirteen more are 24", y.buyers(0, 39), 24);
    });
    promise(11, "BAD SHELF, n;", () -> {
      for (int s : outside(0, 7)) bad("SHELF " + s, x -> x.buyers(s, 3));
      for (int n : new int[] {0, 1, 2, 4, 5, 38, 40, 41, 42, -3, -1, MAX, MIN, 2147483646, -2147483646}) {
        refused(n + " elements", () -> thirteen(BYTES, 40), x -> x.buyers(0, n), BAD);
        bad(n + " elements, a THING, too", x -> x.buyers(1, n));
        bad(n + " elements, NOTHING, too", x -> x.buyers(2, n));
        refused(n + " elements, FULL, too", Stands::fullList, x -> x.buyers(0, n), BAD);
      }
    });
    promise(11, "OTHER;", () -> {
      refused("a THING", Stands::stand, x -> x.buyers(1, 3), OTHER);
      refused("a THING, 39", Stands::stand, x -> x.buyers(5, 39), OTHER);
      refused("a THING, FULL, too", () -> {
        BootSale x = Stands.fullList();
        x.thing(THING, 9, 1, 0, 0);
        x.show(0, 0);
        return x;
      }, x -> x.buyers(0, 3), OTHER);
    });
    promise(11, "NOTHING;", () -> {
      refused("NOTHING", Stands::stand, x -> x.buyers(2, 3), NOTHING);
      refused("NOTHING, FULL, too", Stands::fullList, x -> x.buyers(7, 39), NOTHING);
    });
    promise(11, "BAD: fewer elements, numbers that may not be;", () -> {
      refused("three of none", Stands::stand, x -> x.buyers(4, 3), BAD);
      refused("six of five", () -> fill(new BootSale(), 0, INTS, 0, 0, 9, 0, 0), x -> x.buyers(0, 6), BAD);
      refused("39 of 38", () -> thirteen(INTS, 38), x -> x.buyers(0, 39), BAD);
      refused("fewer, FULL, too", Stands::fullList, x -> x.buyers(0, 9), BAD);
      int[][] edges = {{0, 6}, {0, 3}, {1, 99}};
      for (int i = 0; i < 6; i++) {
        int cell = i;
        int[] edge = edges[i % 3];
        long[] wrong = {edge[0] - 1, edge[1] + 1, (1L << 32) + 1, Long.MAX_VALUE, Long.MIN_VALUE};
        for (long v : wrong) {
          refused("element " + i + " is " + v, () -> {
            BootSale x = fill(new BootSale(), 0, LONGS, 0, 0, 1, 6, 3, 99);
            x.set(0, cell, v);
            return x;
          }, x -> x.buyers(0, 6), BAD);
        }
      }
      refused("BOOLEANS: a PURSE of 0", () -> fill(new BootSale(), 0, BOOLEANS, 1, 1, 0), x -> x.buyers(0, 3), BAD);
      refused("FULL, too", Stands::fullList, x -> x.buyers(0, 6), BAD);
      // what stands behind the n elements isn't looked at
      taken("behind them", () -> fill(new BootSale(), 0, INTS, 0, 0, 9, 7, 7, 7), x -> x.buyers(0, 3), 1);
      taken("BOOLEANS: a PURSE of 1", () -> fill(new BootSale(), 0, BOOLEANS, 1, 1, 1), x -> x.buyers(0, 3), 1);
    });
    promise(11, "FULL.", () -> {
      refused("a 25th", Stands::fullList, x -> x.buyers(0, 3), FULL);
      refused("two, where one has room", () -> {
        BootSale x = new BootSale();
        for (int i = 0; i < 23; i++) x.buyer(0, DEALER, 9);
        return fill(x, 0, INTS, 0, 0, 9, 0, 0, 9);
      }, x -> x.buyers(0, 6), FULL);
      refused("thirteen, where twelve have room", () -> {
        BootSale x = thirteen(INTS, 39);
        for (int i = 0; i < 12; i++) x.buyer(0, DEALER, 9);
        return x;
      }, x -> x.buyers(0, 39), FULL);
    });
  }

  private static BootSale fill(BootSale x, int s, int sort, long... elements) {
    x.row(s, sort, elements.length);
    for (int i = 0; i < elements.length; i++) x.set(s, i, elements[i]);
    return x;
  }

  /** SHELF 0: a ROW of n elements, of which the first 39 are thirteen dealers. */
  private static BootSale thirteen(int sort, int n) {
    BootSale x = new BootSale();
    x.row(0, sort, n);
    for (int i = 2; i < 39; i += 3) x.set(0, i, i);
    return x;
  }

  private static void changeAndAsk() {
    promise(12, "WORTH (what 0), OWN (1), MARK (2), FROM (3) of a THING becomes v: what it was.", () -> {
      int[][] edges = {{1, 99}, {0, 99}, {0, 99}, {0, 7}};
      int[] cells = {1, 3, 5, 6};
      int[] was = {40, 5, 30, 0};
      for (int i = 0; i < 4; i++) {
        int what = i;
        BootSale x = Stands.stand();
        due("to the least", x.change(2, what, edges[i][0]), was[i]);
        due("to the most", x.change(2, what, edges[i][1]), edges[i][0]);
        due("to the same", x.change(2, what, edges[i][1]), edges[i][1]);
        for (int j = 0; j < 4; j++) due("it alone", x.thingOf(2, cells[j]), j == i ? edges[i][1] : was[j]);
        due("not another's", x.thingOf(1, cells[i]), new int[] {10, 1, 6, 0}[i]);
        due("none is refused", x.status(12), 0);
      }
    });
    promise(12, "BAD.", () -> {
      for (int thing : outside(0, 2)) bad("thing " + thing, x -> x.change(thing, MARK, 9));
      refused("no THINGS", Stands::empty, x -> x.change(0, MARK, 9), BAD);
      refused("thing 8", Stands::eightThings, x -> x.change(8, MARK, 9), BAD);
      for (int what : outside(0, 3)) bad("what " + what, x -> x.change(0, what, 5));
      int[][] edges = {{1, 99}, {0, 99}, {0, 99}, {0, 7}};
      for (int i = 0; i < 4; i++) {
        int what = i;
        for (int v : outside(edges[i][0], edges[i][1])) bad("what " + i + " to " + v, x -> x.change(0, what, v));
      }
    });
    promise(13, "FEET (what 0), FALL (1), FRIEND (2), TIP (3) becomes v: what it was.", () -> {
      int[][] edges = {{1, 30}, {0, 14}, {0, 1}, {0, 9}};
      int[] was = {9, 0, 0, 1};
      for (int i = 0; i < 4; i++) {
        BootSale x = Stands.market();
        due("to the least", x.ask(i, edges[i][0]), was[i]);
        due("to the most", x.ask(i, edges[i][1]), edges[i][0]);
        due("to the same", x.ask(i, edges[i][1]), edges[i][1]);
        for (int j = 0; j < 4; j++) due("it alone", x.status(2 + j), j == i ? edges[i][1] : was[j]);
        due("none is refused", x.status(12), 0);
      }
    });
    promise(13, "BAD.", () -> {
      for (int what : outside(0, 3)) bad("what " + what, x -> x.ask(what, 1));
      int[][] edges = {{1, 30}, {0, 14}, {0, 1}, {0, 9}};
      for (int i = 0; i < 4; i++) {
        int what = i;
        for (int v : outside(edges[i][0], edges[i][1])) bad("what " + i + " to " + v, x -> x.ask(what, v));
      }
    });
  }

  private static void tape() {
    promise(14, "THE TAPE gets one byte (0 to 255) behind it: its size.", () -> {
      BootSale x = new BootSale();
      due("the least", x.feed(0), 1);
      due("the most", x.feed(255), 2);
      for (int n = 3; n <= 250; n++) due("the next", x.feed('a'), n);
      due("its size", x.status(8), 250);
      BootSale y = Stands.stand();
      due("behind it", y.feed('2'), 7);
      due("is read", y.sale(), 1);
      due("feet 12", y.status(2), 12);
    });
    promise(14, "BAD;", () -> {
      for (int letter : outside(0, 255)) {
        bad("byte " + letter, x -> x.feed(letter));
        refused("byte " + letter + ", FULL, too", Stands::fullTape, x -> x.feed(letter), BAD);
      }
    });
    promise(14, "FULL.", () -> {
      refused("a 251st", Stands::fullTape, x -> x.feed(0), FULL);
      refused("a 251st, the most", Stands::fullTape, x -> x.feed(255), FULL);
    });
    promise(15, "THE TAPE is empty: its size ahead.", () -> {
      BootSale x = Stands.fullTape();
      due("250", x.wipe(), 250);
      due("its size", x.status(8), 0);
      due("empty already", x.wipe(), 0);
      due("a byte then", x.feed('t'), 1);
      feed(x, "ip 3");
      due("nothing of the old ones", x.sale(), 1);
      due("TIP", x.status(5), 3);
      due("FEET as they were", x.status(2), 9);
      due("behind a SALE", x.wipe(), 0);
    });
  }

  private static void sale() {
    promise(16, "THE TAPE is a SALE: how many STATEMENTS;", () -> {
      due("one", sale(new BootSale(), "tip 1"), 1);
      due("two", sale(new BootSale(), "tip 1;tip 2"), 2);
      BootSale x = Stands.market();
      due("all sorts", sale(x, "feet 30;fall 14;friend 1;tip 9;mark 2 99;from 2 7;thing 5 99 9 99 with 9;buyer 6 3 99"), 8);
      int[] settings = {30, 14, 1, 9};
      for (int i = 0; i < 4; i++) due("setting " + i, x.status(2 + i), settings[i]);
      due("things", x.status(0), 4);
      due("buyers", x.status(1), 4);
      due("none is refused", x.status(12), 0);
    });
    promise(16, "-20 less the FAULT (that is refused, too: BAD).", () -> {
      fault("", Stands::market, 0);
      fault("x", Stands::market, 0);
      fault("tip", Stands::market, 3);
      fault("thing 0 9 1 0", Stands::eightThings, 0);
      BootSale x = new BootSale();
      for (int i = 1; i <= 3; i++) {
        due("a FAULT", sale(x, "tip x"), -24);
        due("BAD", x.status(12), i);
        due("no other", x.status(13) + x.status(14) + x.status(15) + x.status(16), 0);
      }
      BootSale y = new BootSale();
      for (int i = 0; i < 250; i++) y.feed(' ');
      due("250 blanks", y.sale(), -270);
    });
    promise(16, "THE TAPE is empty then, either way.", () -> {
      BootSale x = new BootSale();
      due("a SALE", sale(x, "tip 1"), 1);
      due("its size", x.status(8), 0);
      due("none any more", x.sale(), -20);
      due("a FAULT", sale(x, "tip x"), -24);
      due("its size", x.status(8), 0);
      due("nothing of it is left", sale(x, "tip 3"), 1);
      BootSale y = Stands.fullTape();
      y.sale();
      due("as much again", feed(y, "feet 2"), 6);
      BootSale z = Stands.stand();
      z.feed('x');
      due("feet 1x", z.sale(), -26);
      due("its size", z.status(8), 0);
    });
  }

  private static void thingOf() {
    promise(17, "Of a THING: KIND (0), WORTH (1), ROOM (2), OWN (3), a (4), MARK (5), FROM (6).", () -> {
      BootSale x = new BootSale();
      for (int i = 0; i < 7; i++) x.thing(THING, 9, 1, 0, 0);
      x.thing(DOUBTFUL, 55, 7, 33, 8);
      x.change(7, MARK, 44);
      x.change(7, FROM, 6);
      int[] want = {4, 55, 7, 33, 8, 44, 6};
      for (int what = 0; what < 7; what++) due("what " + what + " of the last", x.thingOf(7, what), want[what]);
      int[] first = {0, 9, 1, 0, 0, 9, 0};
      for (int what = 0; what < 7; what++) due("what " + what + " of the first", x.thingOf(0, what), first[what]);
    });
    promise(17, "BAD.", () -> {
      for (int thing : outside(0, 2)) bad("thing " + thing, x -> x.thingOf(thing, 0));
      for (int what : outside(0, 6)) bad("what " + what, x -> x.thingOf(0, what));
      refused("thing 8", Stands::eightThings, x -> x.thingOf(8, 0), BAD);
      refused("one that is GONE", () -> {
        BootSale x = Stands.alike(1, 30);
        x.buyer(0, FAMILY, 99);
        x.morning();
        return x;
      }, x -> x.thingOf(0, 0), BAD);
    });
  }

  private static void buyerOf() {
    promise(18, "Of the BUYER at a place of the list: HOUR (0), SORT (1), PURSE (2).", () -> {
      BootSale x = Stands.fullList();
      int[] first = {0, 0, 1};
      int[] last = {5, 3, 24};
      for (int what = 0; what < 3; what++) {
        due("what " + what + " of the first", x.buyerOf(0, what), first[what]);
        due("what " + what + " of the last", x.buyerOf(23, what), last[what]);
      }
    });
    promise(18, "BAD.", () -> {
      for (int place : outside(0, 2)) bad("place " + place, x -> x.buyerOf(place, 0));
      for (int what : outside(0, 2)) bad("what " + what, x -> x.buyerOf(0, what));
      refused("place 24", Stands::fullList, x -> x.buyerOf(24, 0), BAD);
      refused("one that is gone", () -> {
        BootSale x = Stands.fullList();
        x.clear();
        return x;
      }, x -> x.buyerOf(0, 0), BAD);
    });
  }
}

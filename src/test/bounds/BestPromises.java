/** Promises 29 to 44: what would be best, what would come of an offer, of rain, of a neighbour. */
final class BestPromises extends Check {
  static void all() {
    bests();
    marked();
    offer();
    least();
    rainAndNeighbour();
    quick();
    worthy();
    swap();
    ahead();
    dearestAndHour();
  }

  private static void bests() {
    promise(29, "BEST MARK.", () -> {
      BootSale x = Stands.market();
      int[] want = {11, 6, 24};
      for (int thing = 0; thing < 3; thing++) due("thing " + thing, x.bestMark(thing), want[thing]);
      BootSale y = Stands.alike(8, 99);
      for (int i = 0; i < 7; i++) y.change(i, FROM, 7);
      y.buyer(0, FAMILY, 99);
      due("the last of eight", y.bestMark(7), 30);
      due("one in the car", y.bestMark(6), 0);
    });
    promise(29, "BAD.", () -> {
      for (int thing : outside(0, 2)) bad("thing " + thing, x -> x.bestMark(thing));
      refused("no THINGS", Stands::fullList, x -> x.bestMark(0), BAD);
      refused("thing 8", Stands::eightThings, x -> x.bestMark(8), BAD);
    });
    promise(30, "BEST FALL.", () -> {
      changesNothing("no THINGS", Stands::fullList, BootSale::bestFall, 0);
      changesNothing("no BUYERS", Stands::eightThings, BootSale::bestFall, 0);
      BootSale x = Stands.alike(1, 99);
      x.buyer(5, FAMILY, 99);
      due("the most", x.bestFall(), 14);
    });
    promise(31, "BEST FROM.", () -> {
      BootSale x = Stands.market();
      // 0 from seven on: the dealer finds thing 2
      due("thing 0", x.bestFrom(0), 1);
      changesNothing("no BUYERS", Stands::eightThings, y -> y.bestFrom(7), 0);
    });
    promise(31, "BAD.", () -> {
      for (int thing : outside(0, 2)) bad("thing " + thing, x -> x.bestFrom(thing));
      refused("no THINGS", Stands::fullList, x -> x.bestFrom(0), BAD);
      refused("thing 8", Stands::eightThings, x -> x.bestFrom(8), BAD);
    });
    promise(32, "TABLE (bits).", () -> {
      changesNothing("no THINGS", Stands::fullList, BootSale::table, 0);
      changesNothing("no BUYERS", Stands::eightThings, BootSale::table, 0);
      changesNothing("0 and 2", Stands::stand, BootSale::table, 5);
      BootSale x = Stands.alike(8, 1);
      for (int i = 0; i < 24; i++) x.buyer(i / 4, FAMILY, 99);
      due("all eight", x.table(), 255);
    });
    promise(33, "FEET NEEDED.", () -> {
      changesNothing("no THINGS", Stands::fullList, BootSale::feet, 1);
      changesNothing("no BUYERS", Stands::eightThings, BootSale::feet, 1);
      changesNothing("all three", Stands::stand, BootSale::feet, 12);
      BootSale x = Stands.alike(8, 30);
      for (int i = 0; i < 8; i++) x.buyer(0, FAMILY, 99);
      due("one after the other", x.feet(), 1);
    });
  }

  private static void marked() {
    promise(34, "MARKED: GAIN (thing NONE), the MARK of a THING.", () -> {
      changesNothing("no THINGS", Stands::fullList, x -> x.marked(NONE), 0);
      changesNothing("no BUYERS: GAIN below 0", Stands::eightThings, x -> x.marked(NONE), -8);
      changesNothing("no BUYERS: the last", Stands::eightThings, x -> x.marked(7), 0);
      BootSale x = Stands.market();
      due("GAIN", x.marked(NONE), 36);
      int[] want = {11, 6, 24};
      for (int thing = 0; thing < 3; thing++) due("MARK of " + thing, x.marked(thing), want[thing]);
    });
    promise(34, "-1000002.", () -> {
      for (int thing : new int[] {-2, 3, 8, MAX, MIN}) refusedFar("thing " + thing, Stands::stand, x -> x.marked(thing), BAD);
      refusedFar("no THINGS", Stands::fullList, x -> x.marked(0), BAD);
      refusedFar("thing 8", Stands::eightThings, x -> x.marked(8), BAD);
    });
  }

  private static void offer() {
    promise(35, "OFFER by the BUYER at a place, of v for a THING.", () -> {
      BootSale x = Stands.market();
      due("the same is not more", x.offer(0, 0, 11), 0);
      due("one more", x.offer(0, 0, 12), 1);
      due("nothing at all", x.offer(0, 0, 0), 0);
      due("the most", x.offer(0, 0, 99), 1);
      due("the last BUYER, the last THING, for nothing", x.offer(2, 2, 0), 1);
      BootSale all = Stands.alike(8, 30);
      for (int i = 0; i < 24; i++) all.buyer(0, DEALER, 99);
      due("24 BUYERS, eight THINGS", all.offer(23, 7, 1), 1);
      due("none is refused", x.status(12) + x.status(15) + all.status(12) + all.status(15), 0);
    });
    promise(35, "BAD;", () -> {
      for (int place : outside(0, 2)) bad("place " + place, x -> x.offer(place, 0, 9));
      for (int thing : outside(0, 2)) bad("thing " + thing, x -> x.offer(0, thing, 9));
      for (int v : outside(0, 99)) {
        bad("v " + v, x -> x.offer(0, 0, v));
        bad("v " + v + ", STUCK, too: not ON", x -> x.offer(0, 2, v));
        refused("v " + v + ", STUCK, too: they don't come", BestPromises::aloneLooker, x -> x.offer(0, 0, v), BAD);
      }
      bad("thing 3, by one who has nothing to BUY", x -> x.offer(2, 3, 9));
      refused("thing 1, by one who doesn't come", BestPromises::aloneLooker, x -> x.offer(0, 1, 9), BAD);
      refused("no BUYERS", Stands::eightThings, x -> x.offer(0, 0, 9), BAD);
      refused("no THINGS", Stands::fullList, x -> x.offer(0, 0, 9), BAD);
    });
    promise(35, "STUCK: they don't come, or it isn't ON then.", () -> {
      refused("they don't come", BestPromises::aloneLooker, x -> x.offer(0, 0, 99), STUCK);
      refused("no room", Stands::stand, x -> x.offer(0, 2, 99), STUCK);
      refused("sold", Stands::stand, x -> x.offer(1, 0, 99), STUCK);
      refused("later", () -> fromLater(1), x -> x.offer(0, 0, 99), STUCK);
      refused("in the car", () -> fromLater(7), x -> x.offer(1, 0, 99), STUCK);
      due("from that HOUR on", fromLater(1).offer(1, 0, 99), 1);
    });
  }

  private static BootSale aloneLooker() {
    BootSale x = Stands.alike(1, 0);
    x.buyer(0, LOOKER, 99);
    return x;
  }

  /** One THING that is ON from an HOUR on, a dealer at six, one at seven, who don't pay so much. */
  private static BootSale fromLater(int from) {
    BootSale x = Stands.alike(1, 40);
    x.change(0, FROM, from);
    x.buyer(0, DEALER, 99);
    x.buyer(1, DEALER, 99);
    return x;
  }

  private static void least() {
    promise(36, "LEAST; NONE.", () -> {
      BootSale x = Stands.market();
      due("one more than the PRICE", x.least(0, 0), 12);
      due("at once", x.least(2, 2), 0);
      due("just there it is taken", x.offer(0, 0, x.least(0, 0)), 1);
      due("below it isn't", x.offer(0, 0, x.least(0, 0) - 1), 0);
    });
    promise(36, "BAD;", () -> {
      for (int place : outside(0, 2)) bad("place " + place, x -> x.least(place, 0));
      for (int thing : outside(0, 2)) bad("thing " + thing, x -> x.least(0, thing));
      refused("thing 1, by one who doesn't come", BestPromises::aloneLooker, x -> x.least(0, 1), BAD);
      refused("no BUYERS", Stands::eightThings, x -> x.least(0, 0), BAD);
      refused("no THINGS", Stands::fullList, x -> x.least(0, 0), BAD);
    });
    promise(36, "STUCK likewise.", () -> {
      refused("they don't come", BestPromises::aloneLooker, x -> x.least(0, 0), STUCK);
      refused("no room", Stands::stand, x -> x.least(0, 2), STUCK);
      refused("sold", Stands::stand, x -> x.least(1, 0), STUCK);
      refused("later", () -> fromLater(1), x -> x.least(0, 0), STUCK);
      refused("in the car", () -> fromLater(7), x -> x.least(1, 0), STUCK);
      due("from that HOUR on", fromLater(1).least(1, 0), 0);
    });
    promise(36, "(NONE isn't refused.)", () -> {
      changesNothing("99 are paid", () -> {
        BootSale x = new BootSale();
        x.thing(SMALL, 99, 1, 0, 0);
        x.buyer(0, FAMILY, 99);
        return x;
      }, x -> x.least(0, 0), NONE);
    });
  }

  private static void rainAndNeighbour() {
    promise(37, "RAIN (may be below 0).", () -> {
      // it never is: who doesn't come would have paid nothing at least, and left less for HOME
      changesNothing("from six", Stands::stand, x -> x.rain(0), 24);
      changesNothing("from seven", Stands::stand, x -> x.rain(1), 9);
      changesNothing("from noon", Stands::stand, x -> x.rain(6), 0);
      changesNothing("no BUYERS", Stands::eightThings, x -> x.rain(0), 0);
      changesNothing("no THINGS", Stands::fullList, x -> x.rain(0), 0);
    });
    promise(37, "-1000002.", () -> {
      for (int hour : outside(0, 6)) refusedFar("HOUR " + hour, Stands::stand, x -> x.rain(hour), BAD);
    });
    promise(38, "NEIGHBOUR (p 0 to 99): by how much GAIN is less (what 0),", () -> {
      BootSale x = Stands.market();
      due("p 0", x.neighbour(0, 0, 0), 15);
      due("p 99", x.neighbour(0, 99, 0), 0);
      due("just what is paid", x.neighbour(0, 11, 0), 0);
      due("one less", x.neighbour(0, 10, 0), 9);
      due("the last THING, which isn't sold", x.neighbour(2, 0, 0), 0);
      BootSale y = Stands.alike(2, 1);
      y.ask(TIP, 0);
      y.change(1, WORTH, 90);
      y.change(1, MARK, 50);
      y.buyer(0, FAMILY, 99);
      due("below 0", y.neighbour(0, 0, 0), -49);
    });
    promise(38, "the MARK of that THING that is best then (1; as BEST MARK).", () -> {
      BootSale x = Stands.market();
      due("p 0", x.neighbour(0, 0, 1), 0);
      due("p 10", x.neighbour(0, 10, 1), 10);
      due("p 99", x.neighbour(0, 99, 1), 11);
      for (int thing = 0; thing < 3; thing++) due("as BEST MARK", x.neighbour(thing, 99, 1), x.bestMark(thing));
      changesNothing("of several the least", Stands::eightThings, y -> y.neighbour(7, 50, 1), 0);
    });
    promise(38, "-1000002.", () -> {
      for (int thing : outside(0, 2)) refusedFar("thing " + thing, Stands::stand, x -> x.neighbour(thing, 9, 0), BAD);
      for (int p : outside(0, 99)) {
        refusedFar("p " + p, Stands::stand, x -> x.neighbour(0, p, 0), BAD);
        refusedFar("p " + p + ", the MARK", Stands::stand, x -> x.neighbour(0, p, 1), BAD);
      }
      for (int what : outside(0, 1)) refusedFar("what " + what, Stands::stand, x -> x.neighbour(0, 9, what), BAD);
      refusedFar("no THINGS", Stands::fullList, x -> x.neighbour(0, 9, 0), BAD);
      refusedFar("thing 8", Stands::eightThings, x -> x.neighbour(8, 9, 0), BAD);
    });
  }

  private static void quick() {
    promise(39, "QUICK (a KIND, a, v 0 to 99); NONE.", () -> {
      BootSale x = new BootSale();
      due("the least of all", x.quick(THING, 0, 0), 1);
      due("the least of the last KIND", x.quick(BOXED, 9, 0), 1);
      due("the most that is paid", x.quick(SOUGHT, 9, 89), 99);
      due("one more", x.quick(SOUGHT, 9, 90), NONE);
      due("v 99", x.quick(SOUGHT, 0, 99), NONE);
    });
    promise(39, "BAD.", () -> {
      for (int kind : outside(0, 5)) bad("KIND " + kind, x -> x.quick(kind, 0, 9));
      for (int a : outside(0, 9)) bad("a " + a, x -> x.quick(0, a, 9));
      for (int v : outside(0, 99)) bad("v " + v, x -> x.quick(0, 0, v));
      // none would be paid, too
      bad("KIND 6, v 99", x -> x.quick(6, 0, 99));
    });
    promise(39, "(NONE isn't refused.)", () -> {
      changesNothing("never so much", Stands::stand, x -> x.quick(THING, 0, 50), NONE);
      changesNothing("more than a", Stands::empty, x -> x.quick(BOXED, 0, 1), NONE);
    });
  }

  private static void worthy() {
    promise(40, "WORTHY.", () -> {
      BootSale x = Stands.market();
      int[] want = {-24, -29, -5};
      for (int thing = 0; thing < 3; thing++) due("thing " + thing, x.worthy(thing), want[thing]);
      changesNothing("the last of eight: its HOME", Stands::eightThings, y -> y.worthy(7), -1);
    });
    promise(40, "-1000002.", () -> {
      for (int thing : outside(0, 2)) refusedFar("thing " + thing, Stands::stand, x -> x.worthy(thing), BAD);
      refusedFar("no THINGS", Stands::fullList, x -> x.worthy(0), BAD);
      refusedFar("thing 8", Stands::eightThings, x -> x.worthy(8), BAD);
    });
  }

  private static void swap() {
    promise(41, "Two THINGS change their numbers: 1;", () -> {
      BootSale x = Stands.eightThings();
      x.change(0, FROM, 5);
      x.change(7, MARK, 77);
      x.show(1, 0);
      x.show(2, 3);
      due("the first and the last", x.swap(0, 7), 1);
      int[] first = {0, 17, 1, 7, 7, 77, 0};
      int[] last = {0, 10, 1, 0, 0, 10, 5};
      for (int what = 0; what < 7; what++) {
        due("what " + what + " of 0", x.thingOf(0, what), first[what]);
        due("what " + what + " of 7", x.thingOf(7, what), last[what]);
      }
      for (int n = 1; n < 7; n++) due("the others", x.thingOf(n, 1), 10 + n);
      due("the THING that was 7 on its SHELF", x.holds(0), 10);
      due("the THING that was 0", x.holds(1), 17);
      due("another THING", x.holds(2), 13);
      due("back", x.swap(7, 0), 1);
      due("the THING that was 0 again is 7", x.holds(0), 17);
      due("the THING that was 7 again is 0", x.holds(1), 10);
      due("another THING still", x.holds(2), 13);
      due("two between", x.swap(3, 4), 1);
      due("on its SHELF", x.holds(2), 14);
    });
    promise(41, "0 if they are one.", () -> {
      changesNothing("the first", Stands::stand, x -> x.swap(0, 0), 0);
      changesNothing("the last", Stands::eightThings, x -> x.swap(7, 7), 0);
    });
    promise(41, "BAD.", () -> {
      for (int thing : outside(0, 2)) {
        bad(thing + " and 0", x -> x.swap(thing, 0));
        bad("0 and " + thing, x -> x.swap(0, thing));
        bad("one, but there is none", x -> x.swap(thing, thing));
      }
      refused("no THINGS", Stands::fullList, x -> x.swap(0, 0), BAD);
      refused("7 and 8", Stands::eightThings, x -> x.swap(7, 8), BAD);
    });
  }

  private static void ahead() {
    promise(42, "By how much GAIN is more, if a THING were number 0, those ahead of it one behind (may be below 0).", () -> {
      BootSale x = Stands.market();
      due("it is already", x.ahead(0), 0);
      due("the last", x.ahead(2), 30);
      x.swap(0, 1);
      x.swap(1, 2);
      // in this order the dealer pays 30, the family 11, the last one 1
      due("GAIN", x.gain(), 42);
      due("below 0", x.ahead(2), -30);
      // eight of OWN 10 to 17 on one foot at noon: those are sold that are first
      BootSale y = new BootSale();
      y.ask(FEET, 1);
      y.ask(TIP, 0);
      for (int i = 0; i < 8; i++) y.thing(THING, 90, 1, 10 + i, 0);
      y.buyer(6, FAMILY, 99);
      for (int thing = 0; thing < 8; thing++) due("one is sold, thing " + thing, y.ahead(thing), thing);
      y.buyer(6, FAMILY, 99);
      int[] more = {0, 0, 1, 2, 3, 4, 5, 6};
      for (int thing = 0; thing < 8; thing++) due("two are sold, thing " + thing, y.ahead(thing), more[thing]);
    });
    promise(42, "-1000002.", () -> {
      for (int thing : outside(0, 2)) refusedFar("thing " + thing, Stands::stand, x -> x.ahead(thing), BAD);
      refusedFar("no THINGS", Stands::fullList, x -> x.ahead(0), BAD);
      refusedFar("thing 8", Stands::eightThings, x -> x.ahead(8), BAD);
    });
  }

  private static void dearestAndHour() {
    promise(43, "The THING that is most WORTHY, of several the first.", () -> {
      changesNothing("of -24, -29 and -5", Stands::stand, BootSale::dearest, 2);
      changesNothing("all the same, below 0", Stands::eightThings, BootSale::dearest, 0);
      BootSale x = Stands.alike(8, 30);
      x.change(3, MARK, 29);
      x.change(5, MARK, 29);
      for (int i = 0; i < 7; i++) x.change(i, FROM, 7);
      x.buyer(0, FAMILY, 99);
      due("the last, the only one that is sold", x.dearest(), 7);
      x.change(3, FROM, 0);
      x.change(5, FROM, 0);
      x.change(5, MARK, 99);
      // 3 is sold for 29; without it 7 would be for 30
      due("the first of those that aren't", x.dearest(), 0);
      due("one THING", Stands.alike(1, 30).dearest(), 0);
      for (int thing = 0; thing < 8; thing++) {
        BootSale y = Stands.alike(8, 99);
        y.change(thing, MARK, 30);
        y.buyer(0, FAMILY, 99);
        due("only this one is sold", y.dearest(), thing);
      }
      // -1, 30, 20: the second is more than the first, the third is less again
      BootSale z = Stands.alike(3, 99);
      z.change(1, MARK, 30);
      z.change(2, MARK, 20);
      for (int i = 0; i < 2; i++) z.buyer(0, FAMILY, 99);
      due("the greatest of all, not of two", z.dearest(), 1);
    });
    promise(43, "STUCK: no THINGS.", () -> {
      refused("a new one", Stands::empty, BootSale::dearest, STUCK);
      refused("BUYERS alone", Stands::fullList, BootSale::dearest, STUCK);
      refused("all are GONE", () -> {
        BootSale x = Stands.alike(1, 30);
        x.buyer(0, FAMILY, 99);
        x.morning();
        return x;
      }, BootSale::dearest, STUCK);
    });
    promise(44, "The HOUR in which most is TAKEN, of several the first.", () -> {
      changesNothing("nothing is TAKEN", Stands::eightThings, BootSale::hour, 0);
      changesNothing("no THINGS", Stands::fullList, BootSale::hour, 0);
      for (int hour = 0; hour <= 6; hour++) {
        BootSale x = Stands.alike(4, 30);
        for (int i = 0; i < 4; i++) x.change(i, OWN, 30);
        x.buyer(hour, FAMILY, 99);
        due("only in " + hour, x.hour(), hour);
        x.buyer(6, FAMILY, 99);
        due("as much at noon", x.hour(), hour);
        if (hour == 6) continue;
        x.buyer(6, FAMILY, 99);
        due("twice as much at noon", x.hour(), 6);
        x.buyer(hour, FAMILY, 99);
        due("as much again", x.hour(), hour);
      }
    });
  }
}

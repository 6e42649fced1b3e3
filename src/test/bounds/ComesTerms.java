import java.util.function.Supplier;

/** Terms, 3. WHAT COMES OF IT. */
final class ComesTerms extends Check {
  static void all() {
    nothingChanges();
    bestMark();
    bestFall();
    bestFrom();
    table();
    feet();
    marked();
    offers();
    least();
    rainAndNeighbour();
    quickAndWorthy();
    told();
    draws();
    truth();
    shelves();
  }

  private static void nothingChanges() {
    term(3, "(MARKS, FROM, FALL and so on as they are, if not said otherwise; nothing is changed)", () -> {
      Supplier<BootSale> s = Stands::stand;
      changesNothing("bestMark", s, x -> x.bestMark(0), 11);
      changesNothing("bestFall", s, BootSale::bestFall, 0);
      changesNothing("bestFrom", s, x -> x.bestFrom(0), 1);
      changesNothing("table", s, BootSale::table, 5);
      changesNothing("feet", s, BootSale::feet, 12);
      changesNothing("marked, GAIN", s, x -> x.marked(NONE), 36);
      changesNothing("marked, a MARK", s, x -> x.marked(2), 24);
      changesNothing("offer", s, x -> x.offer(0, 0, 12), 1);
      changesNothing("least", s, x -> x.least(0, 0), 12);
      changesNothing("rain", s, x -> x.rain(1), 9);
      changesNothing("neighbour, GAIN", s, x -> x.neighbour(0, 10, 0), 9);
      changesNothing("neighbour, a MARK", s, x -> x.neighbour(0, 10, 1), 10);
      changesNothing("quick", s, x -> x.quick(THING, 0, 10), 20);
      changesNothing("worthy", s, x -> x.worthy(2), -5);
      changesNothing("ahead", s, x -> x.ahead(2), 30);
      changesNothing("dearest", s, BootSale::dearest, 2);
      changesNothing("hour", s, BootSale::hour, 0);
      changesNothing("judge", s, x -> x.judge(0), 2);
      changesNothing("told", s, x -> x.told(3), 8);
      // what is asked when all is otherwise stands by that
      BootSale x = Stands.alike(2, 40);
      x.change(1, FROM, 7);
      x.ask(FALL, 14);
      x.buyer(1, FAMILY, 99);
      // 34 less 4.76, cut to 4, are 30; 35 less 4 would be 31
      due("BEST MARK by the FALL there is", x.bestMark(0), 34);
      due("BEST FALL by the MARKS there are: never 30", x.bestFall(), 0);
      due("BEST MARK of one in the car: the least", x.bestMark(1), 0);
    });
  }

  private static void bestMark() {
    term(3, "BEST MARK of a THING: the MARK (0 to 99) with the greatest GAIN, of several the least.", () -> {
      BootSale small = new BootSale();
      small.thing(SMALL, 99, 1, 0, 0);
      small.buyer(0, FAMILY, 99);
      due("99 is paid", small.bestMark(0), 99);
      small.clear();
      small.buyer(0, FAMILY, 98);
      due("they have 98", small.bestMark(0), 98);
      small.clear();
      due("nobody: the least", small.bestMark(0), 0);
      small.buyer(6, FAMILY, 99);
      due("only at noon: the least", small.bestMark(0), 0);
      BootSale x = Stands.alike(1, 40);
      x.ask(TIP, 0);
      x.buyer(0, FAMILY, 1);
      due("they have 1", x.bestMark(0), 1);
      x.clear();
      x.buyer(0, FAMILY, 99);
      x.change(0, OWN, 30);
      due("OWN is what they pay: every MARK up to it does", x.bestMark(0), 0);
      x.change(0, OWN, 29);
      due("one above OWN", x.bestMark(0), 30);
      x.change(0, OWN, 31);
      due("never sold: the least", x.bestMark(0), 0);
      x.change(0, OWN, 0);
      x.buyer(1, FAMILY, 99);
      x.ask(FALL, 7);
      // 32 less 2.24, cut to 2, are 30 at seven, 30 are 30 at six
      due("30 at six or 32 at seven", x.bestMark(0), 30);
      x.change(0, FROM, 1);
      due("at seven 32", x.bestMark(0), 32);
      // less 69, 68 and 67 at eleven it is 30 by 99, 98 and 97; a MARK of 100 and more would bring more
      BootSale late = new BootSale();
      late.thing(THING, 99, 1, 0, 0);
      late.ask(FALL, 14);
      late.buyer(5, FAMILY, 99);
      due("59 would be paid, but 99 is the most", late.bestMark(0), 97);
      due("as it was", x.thingOf(0, 5), 40);
    });
  }

  private static void bestFall() {
    term(3, "BEST FALL: likewise (0 to 14).", () -> {
      BootSale x = Stands.alike(1, 99);
      x.buyer(5, FAMILY, 99);
      // 99 less 69 at eleven by 14; by 13 less 64
      due("only by 14", x.bestFall(), 14);
      x.change(0, MARK, 98);
      due("98 less 68", x.bestFall(), 14);
      x.clear();
      due("nobody: the least", x.bestFall(), 0);
      x.ask(FALL, 14);
      due("whatever it is", x.bestFall(), 0);
      due("as it was", x.status(3), 14);
      x.buyer(2, DEALER, 99);
      x.change(0, MARK, 32);
      // 32 less 7 are 25: by 11 on
      due("the least that does", x.bestFall(), 11);
      x.change(0, MARK, 25);
      due("the most is without", x.bestFall(), 0);
    });
  }

  private static void bestFrom() {
    term(3, "BEST FROM of a THING: likewise (0 to 7).", () -> {
      BootSale x = Stands.alike(1, 30);
      x.change(0, FROM, 5);
      due("nobody: the least", x.bestFrom(0), 0);
      x.buyer(0, FAMILY, 99);
      due("only at six", x.bestFrom(0), 0);
      x.clear();
      x.buyer(6, FAMILY, 99);
      due("any HOUR till noon: the least", x.bestFrom(0), 0);
      due("as it was", x.thingOf(0, 6), 5);
      // till noon it would keep the other off the table
      BootSale six = new BootSale();
      six.ask(TIP, 0);
      six.thing(THING, 99, 9, 50, 0);
      six.thing(THING, 90, 9, 0, 0);
      six.change(1, MARK, 54);
      six.buyer(5, FAMILY, 99);
      six.buyer(6, FAMILY, 99);
      due("noon", six.bestFrom(0), 6);
      // at noon, too
      BootSale seven = new BootSale();
      seven.ask(TIP, 0);
      seven.thing(THING, 90, 9, 1, 0);
      seven.thing(THING, 90, 1, 5, 0);
      seven.buyer(6, LAST, 99);
      due("in the car", seven.bestFrom(0), 7);
    });
  }

  private static void table() {
    term(3, "TABLE: of all sets of THINGS that are ON from 0 (others stay in the car) that of the greatest GAIN, "
        + "of several the least as bits.", () -> {
      due("no THINGS", new BootSale().table(), 0);
      BootSale x = Stands.alike(8, 1);
      due("nobody: the least", x.table(), 0);
      for (int i = 0; i < 8; i++) x.buyer(0, FAMILY, 99);
      due("all eight", x.table(), 255);
      x.clear();
      x.ask(FEET, 1);
      x.buyer(0, FAMILY, 99);
      x.change(7, MARK, 30);
      due("only the last: others would lie ahead of it", x.table(), 128);
      x.change(7, MARK, 1);
      due("each alone, and more: the least", x.table(), 1);
      // thing 1 must stay in the car, or 2 has no room
      BootSale y = Stands.market();
      due("0 and 2", y.table(), 5);
      y.change(2, FROM, 7);
      y.change(0, FROM, 3);
      due("whatever FROM is", y.table(), 5);
      // at noon, too, the first would keep the other off the table
      BootSale noon = new BootSale();
      noon.ask(TIP, 0);
      noon.thing(THING, 90, 9, 1, 0);
      noon.thing(THING, 90, 1, 5, 0);
      noon.buyer(6, LAST, 99);
      due("others stay there till the end", noon.table(), 2);
      due("as it was", y.thingOf(2, 6), 7);
    });
  }

  private static void feet() {
    term(3, "FEET NEEDED: the least FEET (1 to 30) with the greatest GAIN.", () -> {
      due("no THINGS: the least", new BootSale().feet(), 1);
      BootSale x = Stands.market();
      due("all three", x.feet(), 12);
      x.ask(FEET, 30);
      due("whatever there are", x.feet(), 12);
      due("as it was", x.status(2), 30);
      // a family pays 9 only while all three draw, and they take 27 feet
      BootSale y = new BootSale();
      for (int i = 0; i < 3; i++) y.thing(DRAWING, 1, 9, 99, 0);
      y.thing(THING, 10, 3, 9, 0);
      y.change(3, MARK, 9);
      y.buyer(0, FAMILY, 99);
      due("the most", y.feet(), 30);
      y.change(3, MARK, 6);
      y.change(3, OWN, 0);
      due("three feet do: the others don't find room", y.feet(), 3);
      BootSale z = Stands.alike(1, 30);
      z.buyer(0, FAMILY, 99);
      due("one foot", z.feet(), 1);
    });
  }

  private static void marked() {
    term(3, "MARKED: all THINGS by numbers, again and again, get BEST MARK, till nothing changes,", () -> {
      due("no THINGS: GAIN", new BootSale().marked(NONE), 0);
      // thing 2 for 24 goes to the family instead of thing 1, which goes at noon
      BootSale x = Stands.market();
      due("GAIN then", x.marked(NONE), 36);
      int[] marks = {11, 6, 24};
      for (int i = 0; i < 3; i++) due("MARK " + i, x.marked(i), marks[i]);
      BootSale settled = marksByHand(Stands.market(), 2, false);
      for (int i = 0; i < 3; i++) due("settled by two rounds", settled.thingOf(i, 5), marks[i]);
      // the dealer buys thing 1 for 10, so the family buys nothing and no LOOKER comes: 0 for thing 0; then 99 for
      // thing 1, which the family pays; then the LOOKER comes, and a second round finds 15 for thing 0
      BootSale again = new BootSale();
      again.thing(THING, 50, 1, 0, 0);
      again.change(0, FROM, 1);
      again.thing(SMALL, 99, 1, 0, 0);
      again.change(1, MARK, 10);
      again.ask(TIP, 0);
      again.buyer(0, DEALER, 99);
      again.buyer(0, FAMILY, 99);
      again.buyer(1, LOOKER, 99);
      due("a second round", again.marked(0), 15);
      due("the most", again.marked(1), 99);
      due("GAIN", again.marked(NONE), 114);
      BootSale back = marksByHand(longRound(), 9, true);
      due("not from the last on", same(longRound(), back) ? 1 : 0, 0);
    });
    term(3, "9 rounds at most: GAIN then, the MARKS.", () -> {
      BootSale nine = marksByHand(longRound(), 9, false);
      BootSale x = longRound();
      due("GAIN", x.marked(NONE), nine.gain());
      for (int i = 0; i < 8; i++) due("MARK " + i, x.marked(i), nine.thingOf(i, 5));
      due("eight rounds are others", same(longRound(), marksByHand(longRound(), 8, false)) ? 1 : 0, 0);
      due("ten rounds are others", same(longRound(), marksByHand(longRound(), 10, false)) ? 1 : 0, 0);
      due("as it was", x.thingOf(0, 5), 45);
    });
  }

  /** Whether MARKED of the first are the MARKS of the second. */
  private static boolean same(BootSale x, BootSale byHand) {
    for (int i = 0; i < x.status(0); i++) {
      if (x.marked(i) != byHand.thingOf(i, 5)) return false;
    }
    return true;
  }

  private static BootSale marksByHand(BootSale x, int rounds, boolean backward) {
    int things = x.status(0);
    for (int round = 0; round < rounds; round++) {
      for (int i = 0; i < things; i++) {
        int thing = backward ? things - 1 - i : i;
        x.change(thing, MARK, x.bestMark(thing));
      }
    }
    return x;
  }

  /** Its marks would go on to change till the fourteenth round. */
  private static BootSale longRound() {
    int[][] things = {{0, 74, 4, 6, 0, 45, 4}, {2, 60, 4, 16, 1, 57, 0}, {5, 74, 4, 18, 6, 82, 4}, {1, 16, 1, 8, 4, 84, 1},
        {2, 69, 3, 18, 0, 81, 0}, {2, 45, 3, 17, 6, 47, 0}, {1, 66, 1, 4, 9, 23, 0}, {2, 58, 2, 4, 2, 77, 0}};
    int[] buyers = {0, 3, 3, 6, 2, 92, 5, 3, 33, 0, 3, 65, 6, 1, 84, 5, 0, 60, 2, 1, 60, 2, 2, 1, 2, 3, 69, 1, 3, 57, 2, 2, 5,
        4, 1, 26, 4, 0, 38, 4, 3, 43, 6, 1, 23, 3, 1, 93, 0, 2, 37, 6, 2, 54, 1, 1, 41, 1, 3, 29, 2, 0, 49, 2, 3, 40,
        2, 2, 75, 3, 3, 63};
    BootSale x = new BootSale();
    for (int i = 0; i < things.length; i++) {
      int[] t = things[i];
      x.thing(t[0], t[1], t[2], t[3], t[4]);
      x.change(i, MARK, t[5]);
      x.change(i, FROM, t[6]);
    }
    for (int i = 0; i < buyers.length; i += 3) x.buyer(buyers[i], buyers[i + 1], buyers[i + 2]);
    x.ask(FEET, 26);
    x.ask(FALL, 7);
    return x;
  }

  private static void offers() {
    term(3, "OFFER: a BUYER who comes offers v for a THING that is ON then:", () -> {
      BootSale x = Stands.alike(2, 30);
      x.change(1, FROM, 1);
      x.buyer(0, LOOKER, 50);
      x.buyer(0, FAMILY, 50);
      x.buyer(1, LOOKER, 50);
      x.buyer(2, LOOKER, 50);
      due("the first LOOKER doesn't come", x.offer(0, 0, 40), STUCK);
      due("the family comes", x.offer(1, 0, 40), 1);
      due("thing 1 isn't ON at six", x.offer(1, 1, 40), STUCK);
      due("a LOOKER behind who bought comes", x.offer(2, 1, 40), 1);
      due("thing 0 is sold", x.offer(2, 0, 40), STUCK);
      due("a LOOKER behind who bought nothing doesn't come", x.offer(3, 1, 40), STUCK);
      x.change(1, FROM, 7);
      due("thing 1 is in the car", x.offer(2, 1, 40), STUCK);
      BootSale y = Stands.market();
      due("thing 2 has no room at six", y.offer(0, 2, 99), STUCK);
      due("it has at seven", y.offer(1, 2, 99), 1);
    });
    term(3, "whether GAIN is more if it's taken (it is sold to them at v, they BUY nothing else) than if not: 1; 0;", () -> {
      BootSale x = Stands.market();
      due("less", x.offer(0, 0, 10), 0);
      due("the same is not more", x.offer(0, 0, 11), 0);
      due("one more", x.offer(0, 0, 12), 1);
      // the family leaves thing 1 for it, and that goes at noon for 1: 11, v and 1 against 11, 6 less 5
      due("nothing else: the same", x.offer(1, 2, 0), 0);
      due("nothing else: one more", x.offer(1, 2, 1), 1);
      due("no HOME for it", x.offer(2, 2, 0), 1);
      due("the most", x.offer(1, 2, 99), 1);
      // who takes what is offered for has BOUGHT: a LOOKER comes behind them
      BootSale y = Stands.alike(2, 40);
      y.ask(TIP, 0);
      y.change(1, MARK, 15);
      y.buyer(0, FAMILY, 1);
      y.buyer(0, LOOKER, 99);
      due("as it is nobody buys", y.gain(), 0);
      due("for nothing, and the LOOKER comes", y.offer(0, 0, 0), 1);
      due("or for nothing what the LOOKER would buy", y.offer(0, 1, 0), 0);
    });
  }

  private static void least() {
    term(3, "LEAST: the least v (0 to 99) for which it is; NONE.", () -> {
      BootSale x = Stands.market();
      due("one more than the PRICE", x.least(0, 0), 12);
      due("at once", x.least(2, 2), 0);
      x.ask(TIP, 0);
      due("what costs nothing at home", x.least(2, 2), 1);
      BootSale small = new BootSale();
      small.thing(SMALL, 99, 1, 0, 0);
      small.buyer(0, FAMILY, 99);
      due("99 are paid: 100 may not be", small.least(0, 0), NONE);
      small.change(0, MARK, 98);
      due("98 are paid", small.least(0, 0), 99);
      small.change(0, MARK, 0);
      due("nothing is paid", small.least(0, 0), 1);
    });
  }

  private static void rainAndNeighbour() {
    term(3, "RAIN from HOUR h on: nobody comes any more: by how much GAIN is less.", () -> {
      BootSale x = Stands.market();
      x.clear();
      x.buyer(0, DEALER, 40);
      x.buyer(1, FAMILY, 40);
      x.buyer(6, LAST, 5);
      // 11, 6 and 5 for thing 2 at noon, nothing is left: 22
      due("GAIN", x.gain(), 22);
      due("from six: 12 feet are left", x.rain(0), 34);
      due("from seven: 11 less 8", x.rain(1), 19);
      for (int hour = 2; hour <= 6; hour++) due("from " + hour + ": 17 less 5", x.rain(hour), 10);
      due("nobody there", new BootSale().rain(0), 0);
      x.clear();
      due("nobody there, things left", x.rain(0), 0);
    });
    term(3, "NEIGHBOUR has a THING alike at p: nobody pays more than p for it: by how much GAIN is less;", () -> {
      BootSale x = Stands.market();
      due("just what the dealer pays", x.neighbour(0, 11, 0), 0);
      // the dealer goes; at noon thing 0 goes for its OWN 2: 6 and 2 less 5
      due("one less", x.neighbour(0, 10, 0), 9);
      due("OWN at noon is still paid", x.neighbour(0, 2, 0), 9);
      // 6 less 9
      due("nor that", x.neighbour(0, 1, 0), 15);
      due("nothing is paid", x.neighbour(0, 0, 0), 15);
      due("the most", x.neighbour(0, 99, 0), 0);
      BootSale y = Stands.alike(2, 1);
      y.ask(TIP, 0);
      y.change(1, WORTH, 90);
      y.change(1, MARK, 50);
      y.buyer(0, FAMILY, 99);
      // 54 for 50 are 4 over
      due("4 over: still the first", y.neighbour(0, 5, 0), 0);
      due("3 over: the other, 50 for 1: below 0", y.neighbour(0, 4, 0), -49);
      // 6 and 8, less 1 for itself are 13 while all eight draw
      BootSale eight = new BootSale();
      for (int i = 0; i < 8; i++) eight.thing(DRAWING, 10, 1, 0, 0);
      for (int i = 0; i < 8; i++) eight.change(i, MARK, i == 7 ? 13 : 99);
      eight.buyer(0, FAMILY, 99);
      due("drawn by eight, just as much", eight.neighbour(7, 13, 0), 0);
      due("drawn by eight, one less: 13, and its foot", eight.neighbour(7, 12, 0), 14);
    });
    term(3, "the MARK that is best then.", () -> {
      BootSale x = Stands.market();
      due("as much as is paid", x.neighbour(0, 10, 1), 10);
      due("as it is", x.neighbour(0, 99, 1), 11);
      due("never sold: the least", x.neighbour(0, 0, 1), 0);
      BootSale small = new BootSale();
      small.thing(SMALL, 99, 1, 0, 0);
      small.buyer(0, FAMILY, 99);
      due("the most", small.neighbour(0, 99, 1), 99);
      due("one less", small.neighbour(0, 98, 1), 98);
    });
  }

  private static void quickAndWorthy() {
    term(3, "QUICK: a DEALER says yes at v to a THING of a KIND, with a, alone on the TABLE: the least WORTH (1 to 99) "
        + "for which they would PAY v; NONE.", () -> {
      BootSale x = new BootSale();
      int[][] most = {{49, 98}, {89, 99}, {49, 98}, {49, 98}};
      for (int kind = 0; kind < 4; kind++) {
        due("KIND " + kind + ": nothing is paid for the least", x.quick(kind, 9, 0), 1);
        due("KIND " + kind + ": the most that is paid", x.quick(kind, 9, most[kind][0]), most[kind][1]);
        due("KIND " + kind + ": more is never paid", x.quick(kind, 9, most[kind][0] + 1), NONE);
        due("KIND " + kind + ": 99", x.quick(kind, 0, 99), NONE);
      }
      // alone, what draws doesn't draw to itself: 1 for 2
      due("DRAWING, 1", x.quick(DRAWING, 0, 1), 2);
      due("SOUGHT, 1", x.quick(SOUGHT, 0, 1), 2);
      due("SOUGHT, 9: at 9 it is 8.1", x.quick(SOUGHT, 0, 9), 10);
      due("DOUBTFUL, a 0, as SOUGHT", x.quick(DOUBTFUL, 0, 89), 99);
      due("DOUBTFUL, a 9: 80 by 10", x.quick(DOUBTFUL, 9, 8), 89);
      due("DOUBTFUL, a 9: never 9", x.quick(DOUBTFUL, 9, 9), NONE);
      due("BOXED, as much as a", x.quick(BOXED, 9, 9), 18);
      due("BOXED, more than a", x.quick(BOXED, 8, 9), NONE);
      due("BOXED, a 0", x.quick(BOXED, 0, 0), 1);
      due("BOXED, a 0, for 1", x.quick(BOXED, 0, 1), NONE);
    });
    term(3, "WORTHY of a THING: by how much GAIN would be less, if it had been left at home (no HOME for it).", () -> {
      BootSale x = Stands.market();
      // without 0: 30 and 6; without 1: 30 and 11; without 2: 11 and 6
      due("0", x.worthy(0), 12 - 36);
      due("1", x.worthy(1), 12 - 41);
      due("2", x.worthy(2), 12 - 17);
      BootSale y = Stands.alike(1, 30);
      y.ask(TIP, 9);
      due("the only one, unsold: its HOME", y.worthy(0), -9);
      y.ask(TIP, 0);
      due("without HOME", y.worthy(0), 0);
      y.buyer(0, FAMILY, 99);
      due("the only one, sold", y.worthy(0), 30);
      BootSale z = Stands.alike(8, 30);
      z.buyer(0, FAMILY, 99);
      due("the last of eight, unsold", z.worthy(7), -1);
      due("the first of eight, sold: another would be", z.worthy(0), -1);
      due("as many as there were", z.status(0), 8);
    });
  }

  private static void told() {
    term(3, "A told row of MARKS: a ROW, an element for each THING (0 to 99): GAIN by it;", () -> {
      for (int sort = BYTES; sort <= LONGS; sort++) {
        BootSale x = Stands.market();
        x.row(0, sort, 3);
        due("all 0: OWN", x.told(0), 8);
        for (int i = 0; i < 3; i++) x.set(0, i, 99);
        // nothing is bought till noon; then 0 and 1 are on, the last one buys 0 at 2: 2 less 8
        due("all 99", x.told(0), -6);
        x.set(0, 0, 11);
        x.set(0, 1, 6);
        x.set(0, 2, 30);
        due("as they are", x.told(0), 12);
      }
      BootSale y = Stands.market();
      y.row(0, BOOLEANS, 3);
      y.set(0, 0, 7);
      due("BOOLEANS are 1 and 0", y.told(0), 8);
      due("and may be", y.judge(0), NONE);
      due("and are then", y.marks(0), 3);
      due("1", y.thingOf(0, 5), 1);
      due("0", y.thingOf(1, 5), 0);
    });
    term(3, "the first that may not be.", () -> {
      BootSale x = Stands.market();
      x.row(0, LONGS, 40);
      long[] wrong = {100, -1, 127, 255, Long.MAX_VALUE, Long.MIN_VALUE, 1L << 32, -1L << 32};
      for (int i = 0; i < 3; i++) {
        for (long v : wrong) {
          x.set(0, i, v);
          due("element " + i + ": " + v, x.judge(0), i);
        }
        x.set(0, i, 0);
      }
      x.set(0, 3, 100);
      due("no THING has the fourth", x.judge(0), NONE);
      x.set(0, 2, -1);
      x.set(0, 1, 100);
      due("of two the first", x.judge(0), 1);
      x.set(0, 1, 99);
      due("99 may be", x.judge(0), 2);
    });
  }

  private static void draws() {
    term(3, "BY DRAWS n BUYERS come to the list: HOUR a DRAW below 7, SORT a DRAW below 4, PURSE a DRAW below 60 and 1", () -> {
      drawn(1, 3, 2, 34);
      // the least of all, the most of all
      drawn(624, 0, 0, 1);
      drawn(2970, 6, 3, 60);
    });
    term(3, "(by HOURS, behind those of that HOUR that there are).", () -> {
      BootSale x = new BootSale();
      x.buyer(2, DEALER, 9);
      x.buyer(3, DEALER, 9);
      x.buyer(4, DEALER, 9);
      due("three", x.draw(3), 3);
      int[][] want = {{2, 0, 9}, {2, 3, 56}, {2, 3, 21}, {3, 0, 9}, {3, 2, 34}, {4, 0, 9}};
      for (int place = 0; place < 6; place++) {
        for (int what = 0; what < 3; what++) due("buyer " + place + ", " + what, x.buyerOf(place, what), want[place][what]);
      }
    });
    term(3, "A DRAW below n: SEED (1 at first) becomes SEED times 1103515245, and 12345 (an int, wrapping); "
        + "its upper 16 bits, no sign, modulo n.", () -> {
      BootSale x = new BootSale();
      due("at first", x.status(9), 1);
      x.draw(3);
      due("nine draws later", x.status(9), -1084965762);
      // with the sign bit at the first, at the second, at the third draw
      drawn(-1, 5, 1, 23);
      due("two from -1", seedAfter(-1, 2), -297614191);
      drawn(MAX, 4, 1, 31);
      due("two from the greatest", seedAfter(MAX, 2), 1849869457);
      drawn(MIN, 1, 0, 29);
      due("two from the least", seedAfter(MIN, 2), 1109335178);
    });
  }

  private static void drawn(int seed, int hour, int sort, int purse) {
    BootSale x = new BootSale();
    x.seed(seed);
    due("draw from " + seed, x.draw(1), 1);
    due("HOUR", x.buyerOf(0, 0), hour);
    due("SORT", x.buyerOf(0, 1), sort);
    due("PURSE", x.buyerOf(0, 2), purse);
  }

  private static int seedAfter(int seed, int buyers) {
    BootSale x = new BootSale();
    x.seed(seed);
    x.draw(buyers);
    return x.status(9);
  }

  private static void truth() {
    term(3, "IN TRUTH a MORNING goes by: COIN is GAIN more (0 at first);", () -> {
      BootSale x = Stands.market();
      due("COIN at first", x.status(6), 0);
      due("GAIN", x.morning(), 12);
      due("COIN", x.status(6), 12);
      x.ask(TIP, 9);
      due("GAIN below 0: five feet for 9", x.morning(), -45);
      due("COIN below 0", x.status(6), -33);
      x.ask(TIP, 0);
      due("GAIN 0", x.morning(), 0);
      due("COIN stays", x.status(6), -33);
    });
    term(3, "all THINGS that are sold are GONE: those behind them move up; all BUYERS are gone.", () -> {
      BootSale x = Stands.alike(8, 30);
      for (int i = 0; i < 8; i++) x.change(i, WORTH, 50 + i);
      int[] dear = {0, 2, 3, 7};
      for (int thing : dear) x.change(thing, MARK, 99);
      for (int i = 0; i < 6; i++) x.buyer(0, FAMILY, 99);
      x.morning();
      due("how many are left", x.status(0), 4);
      for (int i = 0; i < 4; i++) due("WORTH of " + i, x.thingOf(i, 1), 50 + dear[i]);
      due("BUYERS", x.status(1), 0);
      due("no fifth", x.thingOf(4, 1), BAD);
      for (int i = 4; i < 8; i++) due("room for another", x.thing(THING, 9, 1, 0, 0), i);
      BootSale all = Stands.alike(8, 30);
      for (int i = 0; i < 24; i++) all.buyer(0, FAMILY, 99);
      due("all are sold", all.morning(), 240);
      due("no THINGS", all.status(0), 0);
      due("no BUYERS", all.status(1), 0);
      due("a first one", all.thing(THING, 9, 1, 0, 0), 0);
      BootSale none = Stands.alike(2, 99);
      due("none is sold", none.morning(), -2);
      due("both THINGS", none.status(0), 2);
    });
  }

  private static void shelves() {
    term(3, "SHELVES 0 to 7 hold NOTHING (at first), a ROW, or a THING.", () -> {
      BootSale x = Stands.alike(8, 9);
      for (int s = 0; s < 8; s++) due("at first", x.holds(s), NONE);
      for (int s = 0; s < 8; s++) {
        due("a ROW", x.row(s, INTS, 1), 1);
        due("holds it", x.holds(s), INTS);
        due("a THING", x.show(s, s), 1);
        due("holds it", x.holds(s), 10 + s);
        due("NOTHING", x.show(s, NONE), 1);
        due("holds it", x.holds(s), NONE);
        x.row(s, BYTES, 0);
      }
      due("all are full", x.status(10), 8);
      for (int s : outside(0, 7)) {
        bad("row on " + s, y -> y.row(s, INTS, 1));
        bad("show on " + s, y -> y.show(s, 0));
      }
    });
    term(3, "A ROW has a SORT (0 bytes, 1 shorts, 2 ints, 3 longs, 4 booleans) and 0 to 40 elements "
        + "(0, or not so, at first);", () -> {
      for (int sort = 0; sort <= 4; sort++) {
        BootSale x = new BootSale();
        due("40 elements", x.row(0, sort, 40), 1);
        for (int i = 0; i < 40; i++) due("at first", x.element(0, i), 0);
        for (int i = 0; i < 40; i++) x.set(0, i, 1);
        due("the last", x.element(0, 39), 1);
        due("behind it", x.set(0, 40, 1), BAD);
        due("a new ROW", x.row(0, sort, 40), 1);
        for (int i = 0; i < 40; i++) due("at first, again", x.element(0, i), 0);
        due("no elements", x.row(0, sort, 0), 1);
        due("holds", x.holds(0), sort);
        due("there is none", x.set(0, 0, 1), BAD);
      }
      for (int sort : outside(0, 4)) bad("SORT " + sort, x -> x.row(0, sort, 1));
      for (int n : outside(0, 40)) bad(n + " elements", x -> x.row(0, INTS, n));
    });
    term(3, "what is put in keeps its lowest bits", () -> {
      lowest(BYTES, 127, 127, 128, -128, 255, -1, 256, 0, -128, -128, -129, 127, Long.MAX_VALUE, -1, Long.MIN_VALUE, 0);
      lowest(SHORTS, 32767, 32767, 32768, -32768, 65535, -1, 65536, 0, -32768, -32768, -32769, 32767, Long.MAX_VALUE, -1,
          Long.MIN_VALUE, 0);
      lowest(INTS, MAX, MAX, MAX + 1L, MIN, (1L << 32) - 1, -1, 1L << 32, 0, MIN, MIN, MIN - 1L, MAX, Long.MAX_VALUE, -1,
          Long.MIN_VALUE, 0);
      lowest(LONGS, Long.MAX_VALUE, Long.MAX_VALUE, Long.MIN_VALUE, Long.MIN_VALUE, 1L << 32, 1L << 32, -1, -1);
    });
    term(3, "(of booleans: whether it is not 0); told they are numbers (1, 0).", () -> {
      lowest(BOOLEANS, 0, 0, 1, 1, 2, 1, -1, 1, 256, 1, 1L << 32, 1, Long.MIN_VALUE, 1, 0, 0);
    });
  }

  /** What is put into a ROW of the SORT, and what it is then, by turns. */
  private static void lowest(int sort, long... putAndKept) {
    BootSale x = new BootSale();
    x.row(0, sort, 1);
    for (int i = 0; i < putAndKept.length; i += 2) {
      due("put", x.set(0, 0, putAndKept[i]), 1);
      due("SORT " + sort + ": " + putAndKept[i], x.element(0, 0), putAndKept[i + 1]);
    }
  }
}

/** Terms, 2. A MORNING: what is asked, what is ON, what is paid, who comes, who BUYS, what comes together. */
final class MorningTerms extends Check {
  static void all() {
    prices();
    tables();
    pays();
    buys();
    lookers();
    sums();
  }

  private static void prices() {
    term(2, "(all cut)", () -> {
      BootSale x = Stands.alike(1, 50);
      x.ask(FALL, 7);
      // 50 times 7 by 100 is 3 and a half: 3 falls; two hours 7, three 10 and a half
      int[] want = {50, 47, 43, 40, 36, 33};
      for (int hour = 0; hour < 6; hour++) due("PRICE in " + hour, x.price(0, hour), want[hour]);
      x.change(0, WORTH, 19);
      int[] pays = {9, 11, 5, 3};
      for (int sort = 0; sort < 4; sort++) due("19 by tenths, SORT " + sort, x.pays(sort, 0, 0), pays[sort]);
      BootSale y = new BootSale();
      y.thing(DOUBTFUL, 15, 1, 0, 1);
      // 13 and a half is cut to 13 first, then 9 tenths of it, 11.7, to 11
      due("cut twice", y.pays(DEALER, 0, 0), 11);
    });
    term(2, "PRICE of a THING in HOUR h: MARK less MARK times FALL times h by 100,", () -> {
      BootSale x = Stands.alike(1, 99);
      due("FALL 0 at six", x.price(0, 0), 99);
      due("FALL 0 at eleven", x.price(0, 5), 99);
      x.ask(FALL, 14);
      due("FALL 14 at six", x.price(0, 0), 99);
      due("FALL 14 at eleven: less 69", x.price(0, 5), 30);
      x.ask(FALL, 1);
      x.change(0, MARK, 20);
      due("a fifth at seven is nothing", x.price(0, 1), 20);
      due("a whole one at eleven", x.price(0, 5), 19);
      x.change(0, MARK, 0);
      due("MARK 0", x.price(0, 5), 0);
    });
    term(2, "OWN at least;", () -> {
      BootSale x = Stands.alike(1, 50);
      x.ask(FALL, 7);
      x.change(0, OWN, 47);
      due("just OWN at seven", x.price(0, 1), 47);
      due("OWN at eight", x.price(0, 2), 47);
      x.change(0, OWN, 48);
      due("OWN, one more", x.price(0, 1), 48);
      x.change(0, OWN, 99);
      due("OWN above MARK", x.price(0, 0), 99);
    });
    term(2, "in HOUR 6 OWN.", () -> {
      BootSale x = Stands.alike(1, 50);
      due("OWN 0 at noon", x.price(0, 6), 0);
      x.change(0, OWN, 20);
      due("OWN 20 at noon", x.price(0, 6), 20);
      due("MARK an hour ahead", x.price(0, 5), 50);
      x.change(0, OWN, 99);
      due("OWN 99 at noon", x.price(0, 6), 99);
    });
  }

  private static void tables() {
    term(2, "ON the TABLE: THINGS from their HOUR FROM on,", () -> {
      BootSale x = Stands.alike(3, 9);
      x.change(0, FROM, 6);
      x.change(1, FROM, 7);
      x.change(2, FROM, 3);
      int[] want = {0, 0, 0, 4, 4, 4, 5};
      for (int hour = 0; hour < 7; hour++) due("ON in " + hour, x.on(hour), want[hour]);
    });
    term(2, "not sold,", () -> {
      BootSale x = Stands.alike(1, 30);
      x.buyer(0, FAMILY, 30);
      x.buyer(0, FAMILY, 30);
      x.buyer(1, FAMILY, 30);
      due("the first", x.buys(0), 0);
      due("in the same HOUR it is sold", x.buys(1), NONE);
      due("in the next one, too", x.buys(2), NONE);
      due("it may not be offered for", x.offer(1, 0, 30), STUCK);
      due("nor later", x.offer(2, 0, 30), STUCK);
      due("it still is ON for the first", x.offer(0, 0, 30), 0);
    });
    term(2, "by numbers, as long as their ROOM together is no more than FEET", () -> {
      BootSale x = new BootSale();
      for (int i = 0; i < 3; i++) x.thing(THING, 9, 3, 0, 0);
      due("9 of 9 feet", x.on(0), 7);
      x.ask(FEET, 8);
      due("9 of 8 feet", x.on(0), 3);
      x.ask(FEET, 3);
      due("3 feet", x.on(0), 1);
      x.ask(FEET, 2);
      due("2 feet", x.on(0), 0);
      BootSale y = new BootSale();
      for (int i = 0; i < 8; i++) y.thing(THING, 9, 1, 0, 0);
      due("all eight", y.on(0), 255);
      y.ask(FEET, 8);
      due("all eight just", y.on(0), 255);
      y.ask(FEET, 7);
      due("the last stays out", y.on(0), 127);
    });
    term(2, "(one for which there is none stays out, others behind it may be on).", () -> {
      BootSale x = new BootSale();
      int[] rooms = {5, 5, 5, 4, 1};
      for (int room : rooms) x.thing(THING, 9, room, 0, 0);
      due("the fourth may", x.on(0), 9);
      x.ask(FEET, 10);
      due("the second may", x.on(0), 3);
      x.ask(FEET, 4);
      due("only the fourth", x.on(0), 8);
      x.ask(FEET, 1);
      due("only the last", x.on(0), 16);
      // what is in the car takes no room
      x.change(3, FROM, 7);
      x.ask(FEET, 4);
      due("one in the car", x.on(0), 16);
      // when one is sold the next has room
      BootSale y = new BootSale();
      y.ask(FEET, 1);
      for (int i = 0; i < 2; i++) y.thing(SMALL, 9, 1, 0, 0);
      for (int i = 0; i < 3; i++) y.buyer(0, FAMILY, 9);
      due("the first", y.buys(0), 0);
      due("the next", y.buys(1), 1);
      due("none", y.buys(2), NONE);
    });
  }

  private static void pays() {
    term(2, "DRAWN: how many DRAWING THINGS are ON.", () -> {
      // a family pays 6 for the THING and one more for each that draws; the drawing ones stay, for 99
      for (int draw = 0; draw < 8; draw++) {
        BootSale x = new BootSale();
        x.thing(THING, 10, 1, 0, 0);
        for (int i = 0; i < draw; i++) x.thing(DRAWING, 10, 1, 0, 0);
        for (int i = 1; i <= draw; i++) x.change(i, MARK, 99);
        x.buyer(0, FAMILY, 99);
        x.change(0, MARK, 6 + draw);
        due(draw + " draw", x.buys(0), 0);
        x.change(0, MARK, 7 + draw);
        due("one more is asked", x.buys(0), NONE);
      }
      BootSale x = drawnOnce();
      due("one draws", x.buys(0), 0);
      x.change(1, FROM, 7);
      due("one in the car doesn't draw", x.buys(0), NONE);
      x.change(1, FROM, 1);
      due("one that comes later doesn't draw", x.buys(0), NONE);
      x.change(1, FROM, 0);
      x.ask(FEET, 1);
      due("one that has no room doesn't draw", x.buys(0), NONE);
      BootSale y = drawnOnce();
      y.change(1, MARK, 0);
      y.buyer(0, FAMILY, 99);
      due("the first one buys what draws", y.buys(0), 1);
      due("what is sold doesn't draw", y.buys(1), NONE);
      BootSale z = drawnOnce();
      due("once", z.buys(0), 0);
      z.swap(0, 1);
      due("still once under other numbers", z.buys(0), 1);
      z.change(1, MARK, 8);
      due("not twice", z.buys(0), NONE);
    });
    term(2, "A BUYER would PAY for a THING: THING: WORTH times 5 (DEALER), 6 (FAMILY), 3 (LOOKER) or 2 (LAST) by 10, "
        + "and DRAWN.", () -> {
      pay(THING, 1, 0, 0, 0, 0, 0, 0);
      pay(THING, 1, 0, 8, 8, 8, 8, 8);
      pay(THING, 99, 0, 0, 49, 59, 29, 19);
      pay(THING, 99, 9, 8, 57, 67, 37, 27);
      pay(THING, 2, 0, 1, 2, 2, 1, 1);
    });
    term(2, "SOUGHT: a DEALER WORTH times 9 by 10; others as THING.", () -> {
      pay(SOUGHT, 1, 0, 0, 0, 0, 0, 0);
      pay(SOUGHT, 2, 0, 0, 1, 1, 0, 0);
      pay(SOUGHT, 99, 9, 0, 89, 59, 29, 19);
      // a dealer isn't drawn to it
      pay(SOUGHT, 99, 9, 8, 89, 67, 37, 27);
    });
    term(2, "DRAWING: as THING, less 1 (it doesn't draw to itself).", () -> {
      pay(DRAWING, 99, 0, 1, 49, 59, 29, 19);
      pay(DRAWING, 99, 0, 8, 56, 66, 36, 26);
      pay(DRAWING, 99, 0, 0, 48, 58, 28, 18);
      BootSale x = new BootSale();
      x.thing(DRAWING, 10, 1, 0, 0);
      x.change(0, MARK, 6);
      x.buyer(0, FAMILY, 99);
      due("alone, for 6", x.buys(0), 0);
      x.change(0, MARK, 7);
      due("alone, for 7", x.buys(0), NONE);
    });
    term(2, "SMALL: a FAMILY WORTH; others as THING.", () -> {
      pay(SMALL, 1, 0, 0, 0, 1, 0, 0);
      pay(SMALL, 99, 0, 0, 49, 99, 29, 19);
      // a family isn't drawn to it
      pay(SMALL, 99, 0, 8, 57, 99, 37, 27);
    });
    term(2, "DOUBTFUL: as SOUGHT, times 10 less a, by 10.", () -> {
      pay(DOUBTFUL, 99, 0, 0, 89, 59, 29, 19);
      pay(DOUBTFUL, 99, 9, 0, 8, 5, 2, 1);
      pay(DOUBTFUL, 99, 9, 8, 8, 6, 3, 2);
      pay(DOUBTFUL, 1, 9, 8, 0, 0, 0, 0);
      pay(DOUBTFUL, 1, 0, 8, 0, 8, 8, 8);
    });
    term(2, "BOXED: as SMALL, but a at most.", () -> {
      pay(BOXED, 99, 0, 8, 0, 0, 0, 0);
      pay(BOXED, 99, 9, 0, 9, 9, 9, 9);
      pay(BOXED, 9, 9, 0, 4, 9, 2, 1);
      pay(BOXED, 10, 9, 0, 5, 9, 3, 2);
      pay(BOXED, 8, 9, 0, 4, 8, 2, 1);
      pay(BOXED, 9, 9, 8, 9, 9, 9, 9);
    });
    term(2, "(0 at least.)", () -> {
      // less 1 of nothing
      pay(DRAWING, 1, 0, 0, 0, 0, 0, 0);
      pay(DRAWING, 1, 0, 1, 0, 0, 0, 0);
      pay(DRAWING, 4, 0, 0, 1, 1, 0, 0);
    });
  }

  private static BootSale drawnOnce() {
    BootSale x = new BootSale();
    x.thing(THING, 10, 1, 0, 0);
    x.thing(DRAWING, 10, 1, 0, 0);
    x.change(0, MARK, 7);
    x.change(1, MARK, 99);
    x.buyer(0, FAMILY, 99);
    return x;
  }

  private static void pay(int kind, int worth, int a, int drawn, int dealer, int family, int looker, int last) {
    BootSale x = new BootSale();
    x.thing(kind, worth, 1, 0, a);
    int[] want = {dealer, family, looker, last};
    for (int sort = 0; sort < 4; sort++) {
      due("KIND " + kind + ", WORTH " + worth + ", a " + a + ", drawn " + drawn + ": SORT " + sort,
          x.pays(sort, 0, drawn), want[sort]);
    }
  }

  private static void buys() {
    term(2, "A BUYER who comes BUYS, of THINGS ON for which they would PAY PRICE at least, and have it,", () -> {
      BootSale x = Stands.alike(1, 30);
      x.buyer(0, FAMILY, 99);
      due("they PAY 30, PRICE 30", x.buys(0), 0);
      x.change(0, MARK, 31);
      due("they PAY 30, PRICE 31", x.buys(0), NONE);
      x.change(0, MARK, 30);
      x.clear();
      x.buyer(0, FAMILY, 30);
      due("they have just the PRICE", x.buys(0), 0);
      due("and it's the PRICE that is TAKEN", x.taken(), 30);
      x.clear();
      x.buyer(0, FAMILY, 29);
      due("they have one less", x.buys(0), NONE);
      x.change(0, FROM, 1);
      x.clear();
      x.buyer(0, FAMILY, 99);
      due("it isn't ON", x.buys(0), NONE);
      BootSale y = new BootSale();
      y.thing(BOXED, 9, 1, 0, 0);
      y.change(0, MARK, 0);
      y.buyer(0, LAST, 1);
      due("they PAY 0, PRICE 0", y.buys(0), 0);
      due("it is sold, for nothing", y.left(), 0);
    });
    term(2, "that with the greatest PAY less PRICE, of several the first;", () -> {
      BootSale x = Stands.alike(3, 20);
      x.buyer(0, FAMILY, 99);
      due("all the same: the first", x.buys(0), 0);
      x.change(2, MARK, 19);
      due("the last is cheaper", x.buys(0), 2);
      x.change(1, MARK, 19);
      due("the second as cheap", x.buys(0), 1);
      x.change(0, MARK, 0);
      due("the first for nothing", x.buys(0), 0);
      // not the cheapest, not the dearest: the difference
      x.change(0, WORTH, 10);
      due("6 for 0 is 6, 30 for 19 is 11", x.buys(0), 1);
      x.clear();
      x.buyer(0, FAMILY, 18);
      due("of those for which they have it", x.buys(0), 0);
      x.change(0, FROM, 7);
      due("none of those", x.buys(0), NONE);
    });
    term(2, "else goes.", () -> {
      BootSale x = Stands.alike(1, 31);
      x.buyer(0, FAMILY, 99);
      x.buyer(1, LOOKER, 99);
      x.buyer(6, FAMILY, 99);
      due("they come", x.comes(0), 1);
      due("and go", x.buys(0), NONE);
      due("none is drawn by that", x.comes(1), 0);
      due("at noon it's to be had", x.buys(2), 0);
      BootSale y = Stands.alike(2, 1);
      y.buyer(0, FAMILY, 99);
      due("they BUY but one", y.left(), 2);
    });
  }

  private static void lookers() {
    term(2, "A LOOKER comes only if FRIEND is 1, or the BUYER just ahead came and BOUGHT.", () -> {
      lookers("L", "0", "1");
      // F buys, f comes and buys nothing (a purse of 1), L looks and would buy, l looks and buys nothing
      lookers("FL", "11", "11");
      lookers("fL", "10", "11");
      lookers("FlL", "110", "111");
      lookers("FLL", "111", "111");
      lookers("FfL", "110", "111");
      lookers("LFL", "011", "111");
      lookers("FLfL", "1110", "1111");
      // one that doesn't come has not bought, either
      lookers("fLL", "100", "111");
      BootSale x = Stands.alike(2, 10);
      x.buyer(0, FAMILY, 99);
      x.buyer(6, LOOKER, 99);
      due("just ahead, though six hours ago", x.comes(1), 1);
      due("and they BUY", x.buys(1), 1);
    });
    term(2, "(The first one needs a FRIEND.)", () -> {
      BootSale x = Stands.alike(1, 10);
      x.buyer(0, LOOKER, 99);
      due("no FRIEND", x.comes(0), 0);
      due("they BUY nothing", x.buys(0), NONE);
      x.ask(FRIEND, 1);
      due("a FRIEND", x.comes(0), 1);
      due("they BUY", x.buys(0), 0);
      for (int sort : new int[] {DEALER, FAMILY, LAST}) {
        BootSale y = new BootSale();
        y.buyer(0, sort, 1);
        due("SORT " + sort + " needs none", y.comes(0), 1);
      }
    });
  }

  /** Buyers one after the other over things for 10: who comes without a FRIEND, and with one. */
  private static void lookers(String who, String without, String with) {
    for (int friend = 0; friend < 2; friend++) {
      BootSale x = Stands.alike(8, 10);
      x.ask(FRIEND, friend);
      for (char c : who.toCharArray()) {
        x.buyer(0, Character.toLowerCase(c) == 'l' ? LOOKER : FAMILY, Character.isUpperCase(c) ? 50 : 1);
      }
      String want = friend == 0 ? without : with;
      for (int i = 0; i < who.length(); i++) {
        due(who + ", FRIEND " + friend + ": comes " + i, x.comes(i), want.charAt(i) - '0');
        boolean buys = want.charAt(i) == '1' && Character.isUpperCase(who.charAt(i));
        due(who + ", FRIEND " + friend + ": buys " + i, x.buys(i) == NONE ? 0 : 1, buys ? 1 : 0);
      }
    }
  }

  private static void sums() {
    term(2, "TAKEN: PRICES of all that is sold.", () -> {
      due("nothing", new BootSale().taken(), 0);
      due("11 and 6", Stands.market().taken(), 17);
      BootSale x = Stands.alike(8, 30);
      for (int i = 0; i < 8; i++) x.buyer(i / 2, FAMILY, 30);
      due("all eight", x.taken(), 240);
      x.ask(FALL, 14);
      // 30, then less 4.2, 8.4, 12.6, each cut
      due("as prices fall", x.taken(), 2 * (30 + 26 + 22 + 18));
      BootSale y = Stands.alike(1, 30);
      y.change(0, OWN, 7);
      y.buyer(6, FAMILY, 30);
      due("OWN at noon", y.taken(), 7);
    });
    term(2, "LEFT: what isn't sold (THINGS in the car, too).", () -> {
      due("nothing", new BootSale().left(), 0);
      BootSale x = Stands.alike(8, 30);
      due("all eight", x.left(), 255);
      x.change(7, FROM, 7);
      due("one in the car, too", x.left(), 255);
      for (int i = 0; i < 8; i++) x.buyer(0, FAMILY, 30);
      due("only that one", x.left(), 128);
      x.change(7, FROM, 0);
      due("none", x.left(), 0);
    });
    term(2, "HOME: TIP times ROOM of all LEFT.", () -> {
      due("nothing", new BootSale().home(), 0);
      BootSale x = new BootSale();
      for (int i = 0; i < 8; i++) x.thing(THING, 9, 9, 0, 0);
      due("72 feet", x.home(), 72);
      x.ask(TIP, 9);
      due("72 feet for 9", x.home(), 648);
      x.ask(TIP, 0);
      due("72 feet for nothing", x.home(), 0);
      BootSale y = Stands.alike(1, 30);
      y.change(0, FROM, 7);
      due("one in the car, too", y.home(), 1);
      y.change(0, FROM, 0);
      y.buyer(0, FAMILY, 30);
      due("nothing is left", y.home(), 0);
    });
    term(2, "GAIN: TAKEN less HOME.", () -> {
      due("nothing", new BootSale().gain(), 0);
      due("17 less 5", Stands.market().gain(), 12);
      BootSale x = new BootSale();
      for (int i = 0; i < 8; i++) x.thing(THING, 9, 9, 0, 0);
      x.ask(TIP, 9);
      due("below 0", x.gain(), -648);
    });
  }
}

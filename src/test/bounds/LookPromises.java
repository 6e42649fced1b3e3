/** Promises 19 to 28: what a MORNING is as things stand. */
final class LookPromises extends Check {
  static void all() {
    price();
    on();
    pays();
    buys();
    comes();
    who();
    sums();
  }

  private static void price() {
    promise(19, "PRICE of a THING in an HOUR.", () -> {
      BootSale x = Stands.eightThings();
      x.ask(FALL, 14);
      due("the first at six", x.price(0, 0), 10);
      due("the first at eleven: less 7", x.price(0, 5), 3);
      due("the first at noon", x.price(0, 6), 0);
      due("the last at six", x.price(7, 0), 17);
      due("the last at eleven: less 11, OWN at least", x.price(7, 5), 7);
      due("the last at noon", x.price(7, 6), 7);
    });
    promise(19, "BAD.", () -> {
      for (int thing : outside(0, 2)) bad("thing " + thing, x -> x.price(thing, 0));
      for (int hour : outside(0, 6)) bad("HOUR " + hour, x -> x.price(0, hour));
      refused("no THINGS", Stands::empty, x -> x.price(0, 0), BAD);
      refused("thing 8", Stands::eightThings, x -> x.price(8, 0), BAD);
    });
  }

  private static void on() {
    promise(20, "THINGS (bits) that are ON in an HOUR, nothing being sold yet.", () -> {
      due("no THINGS", new BootSale().on(0), 0);
      due("all eight", Stands.eightThings().on(0), 255);
      BootSale x = Stands.market();
      due("two are sold by noon, but ON here", x.on(6), 3);
      x.change(0, FROM, 6);
      due("the first from noon on", x.on(5), 6);
      due("the first at noon", x.on(6), 3);
      x.change(0, FROM, 7);
      due("the first in the car", x.on(6), 6);
    });
    promise(20, "BAD.", () -> {
      for (int hour : outside(0, 6)) bad("HOUR " + hour, x -> x.on(hour));
      refused("no THINGS, HOUR 7", Stands::empty, x -> x.on(7), BAD);
    });
  }

  private static void pays() {
    promise(21, "What a SORT of BUYER would PAY for a THING, so many DRAWING ones (0 to 8) being ON.", () -> {
      BootSale x = Stands.eightThings();
      // worth 10 and 17, by tenths
      int[] none = {5, 6, 3, 2};
      int[] eight = {16, 18, 13, 11};
      for (int sort = 0; sort <= 3; sort++) {
        due("SORT " + sort + ", the first, none", x.pays(sort, 0, 0), none[sort]);
        due("SORT " + sort + ", the last, eight", x.pays(sort, 7, 8), eight[sort]);
      }
      for (int drawn = 0; drawn <= 8; drawn++) due(drawn + " draw", x.pays(FAMILY, 0, drawn), 6 + drawn);
    });
    promise(21, "BAD.", () -> {
      for (int sort : outside(0, 3)) bad("SORT " + sort, x -> x.pays(sort, 0, 0));
      for (int thing : outside(0, 2)) bad("thing " + thing, x -> x.pays(0, thing, 0));
      for (int drawn : outside(0, 8)) bad(drawn + " draw", x -> x.pays(0, 0, drawn));
      refused("no THINGS", Stands::empty, x -> x.pays(0, 0, 0), BAD);
      refused("thing 8", Stands::eightThings, x -> x.pays(0, 8, 0), BAD);
    });
  }

  private static void buys() {
    promise(22, "Which THING the BUYER at a place of the list BUYS; NONE: none (or they don't come).", () -> {
      BootSale x = Stands.market();
      due("the first", x.buys(0), 0);
      due("the next", x.buys(1), 1);
      BootSale all = Stands.alike(8, 30);
      for (int i = 0; i < 24; i++) all.buyer(i / 4, FAMILY, 99);
      for (int i = 0; i < 24; i++) due("place " + i, all.buys(i), i < 8 ? i : NONE);
    });
    promise(22, "BAD.", () -> {
      for (int place : outside(0, 2)) bad("place " + place, x -> x.buys(place));
      refused("no BUYERS", Stands::eightThings, x -> x.buys(0), BAD);
      refused("place 24", Stands::fullList, x -> x.buys(24), BAD);
    });
    promise(22, "(NONE isn't refused.)", () -> {
      changesNothing("they have too little", Stands::stand, x -> x.buys(2), NONE);
      changesNothing("there are no THINGS", Stands::fullList, x -> x.buys(23), NONE);
      changesNothing("they don't come", LookPromises::aloneLooker, x -> x.buys(0), NONE);
    });
  }

  private static BootSale aloneLooker() {
    BootSale x = Stands.alike(1, 0);
    x.buyer(0, LOOKER, 99);
    return x;
  }

  private static void comes() {
    promise(23, "Whether the BUYER at a place comes: 1, 0.", () -> {
      BootSale x = Stands.fullList();
      x.thing(SMALL, 2, 1, 2, 0);
      // the family of the first four, for 2, the LOOKER behind them; then nothing more is sold
      for (int i = 0; i < 24; i++) due("place " + i, x.comes(i), i % 4 != LOOKER || i == 2 ? 1 : 0);
      changesNothing("one who doesn't come isn't refused", LookPromises::aloneLooker, y -> y.comes(0), 0);
    });
    promise(23, "BAD.", () -> {
      for (int place : outside(0, 2)) bad("place " + place, x -> x.comes(place));
      refused("no BUYERS", Stands::eightThings, x -> x.comes(0), BAD);
      refused("place 24", Stands::fullList, x -> x.comes(24), BAD);
    });
  }

  private static void who() {
    promise(24, "Who BUYS a THING (the place); NONE: nobody.", () -> {
      BootSale x = Stands.market();
      due("the first", x.who(0), 0);
      due("the next", x.who(1), 1);
      BootSale last = Stands.alike(8, 30);
      for (int i = 0; i < 7; i++) last.change(i, FROM, 7);
      for (int i = 0; i < 23; i++) last.buyer(0, DEALER, 99);
      last.buyer(5, FAMILY, 99);
      due("the last THING by the last BUYER", last.who(7), 23);
      // what was so isn't any more
      for (int thing = 0; thing < 2; thing++) {
        due("thing " + thing, x.who(thing), thing);
        x.change(thing, FROM, 7);
        due("thing " + thing + " in the car", x.who(thing), NONE);
        x.change(thing, FROM, 0);
      }
    });
    promise(24, "BAD.", () -> {
      for (int thing : outside(0, 2)) bad("thing " + thing, x -> x.who(thing));
      refused("no THINGS", Stands::fullList, x -> x.who(0), BAD);
      refused("thing 8", Stands::eightThings, x -> x.who(8), BAD);
    });
    promise(24, "(NONE isn't refused.)", () -> {
      changesNothing("nobody", Stands::stand, x -> x.who(2), NONE);
      changesNothing("no BUYERS", Stands::eightThings, x -> x.who(7), NONE);
    });
  }

  private static void sums() {
    promise(25, "TAKEN.", () -> {
      changesNothing("no THINGS", Stands::fullList, BootSale::taken, 0);
      changesNothing("no BUYERS", Stands::eightThings, BootSale::taken, 0);
      changesNothing("11 and 6", Stands::stand, BootSale::taken, 17);
    });
    promise(26, "LEFT (bits).", () -> {
      changesNothing("no THINGS", Stands::fullList, BootSale::left, 0);
      changesNothing("all eight", Stands::eightThings, BootSale::left, 255);
      changesNothing("the third", Stands::stand, BootSale::left, 4);
    });
    promise(27, "HOME.", () -> {
      changesNothing("no THINGS", Stands::fullList, BootSale::home, 0);
      changesNothing("all eight", Stands::eightThings, BootSale::home, 8);
      changesNothing("the third", Stands::stand, BootSale::home, 5);
    });
    promise(28, "GAIN (may be below 0).", () -> {
      changesNothing("no THINGS", Stands::fullList, BootSale::gain, 0);
      changesNothing("below 0", Stands::eightThings, BootSale::gain, -8);
      changesNothing("17 less 5", Stands::stand, BootSale::gain, 12);
    });
  }
}

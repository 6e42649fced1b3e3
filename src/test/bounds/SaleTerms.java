import java.util.List;
import java.util.function.ToLongFunction;

/** Terms, 1. THE SALE: what numbers may be, how many of all there may be, and what a SALE may say. */
final class SaleTerms extends Check {
  /** What a THING's numbers are where nothing is asked of them: KIND, WORTH, ROOM, OWN, a. */
  private static final int[] PLAIN = {THING, 9, 1, 0, 0};

  static void all() {
    things();
    thingNumbers();
    buyers();
    settings();
    tapeAndTokens();
    statements();
    comesOrNot();
    faults();
  }

  private static void things() {
    term(1, "THINGS have numbers, 0 on, 8 at most", () -> {
      BootSale x = new BootSale();
      for (int n = 0; n < 8; n++) due("thing " + n, x.thing(THING, 9 + n, 1, 0, 0), n);
      due("how many", x.status(0), 8);
      for (int n = 0; n < 8; n++) due("its WORTH", x.thingOf(n, 1), 9 + n);
      refused("number 8", Stands::eightThings, y -> y.thingOf(8, 0), BAD);
      refused("number -1", Stands::eightThings, y -> y.thingOf(-1, 0), BAD);
      refused("a ninth", Stands::eightThings, y -> y.thing(THING, 9, 1, 0, 0), FULL);
    });
    term(1, "each of a KIND: 0 THING; 1 SOUGHT, 2 DRAWING, 3 SMALL, each under THING; 4 DOUBTFUL, under SOUGHT; "
        + "5 BOXED, under SMALL;", () -> {
      edges(0, 0, 5);
      // by KIND that is taken for, by KIND that it is: whether the one is the other or above it
      String[] above = {"111111", "010010", "001000", "000101", "000010", "000001"};
      for (int kind = 0; kind < 6; kind++) {
        for (int is = 0; is < 6; is++) {
          BootSale x = new BootSale();
          x.thing(is, 9, 1, 0, 9);
          x.show(0, 0);
          boolean under = above[kind].charAt(is) == '1';
          due("KIND " + is + " taken for " + kind, x.says(0, kind) == OTHER ? 0 : 1, under ? 1 : 0);
        }
      }
    });
  }

  private static void thingNumbers() {
    term(1, "WORTH (1 to 99)", () -> {
      edges(1, 1, 99);
      changeEdges(WORTH, 1, 99);
    });
    term(1, "ROOM it takes (1 to 9 feet)", () -> edges(2, 1, 9));
    term(1, "OWN: the least at which it is given (0 to 99)", () -> {
      edges(3, 0, 99);
      changeEdges(OWN, 0, 99);
      BootSale x = Stands.alike(1, 0);
      x.change(0, OWN, 30);
      x.buyer(0, FAMILY, 30);
      due("given at OWN, just what they pay", x.taken(), 30);
      x.change(0, OWN, 31);
      due("not below OWN", x.buys(0), NONE);
    });
    term(1, "a (0 to 9)", () -> edges(4, 0, 9));
    term(1, "MARK: what is asked at six (0 to 99; WORTH at first)", () -> {
      changeEdges(MARK, 0, 99);
      sold("mark 0 0", 5, 0);
      sold("mark 0 99", 5, 99);
      fault("mark 0 100", Stands::market, 7);
      BootSale x = new BootSale();
      x.thing(SMALL, 99, 1, 0, 0);
      due("MARK at first, WORTH 99", x.thingOf(0, 5), 99);
      x.thing(BOXED, 1, 1, 50, 0);
      due("MARK at first, WORTH 1, OWN above it", x.thingOf(1, 5), 1);
      x.change(0, WORTH, 20);
      due("MARK stays when WORTH is changed", x.thingOf(0, 5), 99);
      x.ask(FALL, 14);
      due("PRICE at six", x.price(0, 0), 99);
    });
    term(1, "FROM: the HOUR from which on it is on the TABLE (0 to 6; 7: it stays in the car; 0 at first).", () -> {
      changeEdges(FROM, 0, 7);
      sold("from 0 0", 6, 0);
      sold("from 0 7", 6, 7);
      fault("from 0 8", Stands::market, 7);
      BootSale x = Stands.alike(1, 9);
      due("FROM at first", x.thingOf(0, 6), 0);
      for (int from = 0; from <= 7; from++) {
        x.change(0, FROM, from);
        for (int hour = 0; hour <= 6; hour++) due("FROM " + from + ", HOUR " + hour, x.on(hour), from <= hour ? 1 : 0);
      }
    });
  }

  /** One number of a THING by thing() and by a SALE, the others being plain. */
  private static void edges(int cell, int least, int most) {
    for (int v : new int[] {least, most}) {
      BootSale x = new BootSale();
      due("thing, the number " + v, thing(x, cell, v), 0);
      due("it is", x.thingOf(0, cell), v);
      due("as a SALE", sale(x, text(cell, v)), 1);
      due("it is", x.thingOf(1, cell), v);
      due("none is refused", x.status(12), 0);
    }
    for (int v : outside(least, most)) bad("thing, the number " + v, x -> thing(x, cell, v));
    String before = text(cell, most + 1);
    fault(before, Stands::market, place(cell));
    if (least > 0) fault(text(cell, least - 1), Stands::market, place(cell));
  }

  private static int thing(BootSale x, int cell, int v) {
    int[] n = PLAIN.clone();
    n[cell] = v;
    return x.thing(n[0], n[1], n[2], n[3], n[4]);
  }

  private static String text(int cell, int v) {
    int[] n = PLAIN.clone();
    n[cell] = v;
    return "thing " + n[0] + " " + n[1] + " " + n[2] + " " + n[3] + " with " + n[4];
  }

  /** Where the number begins: "thing 0 9 1 0 with 0". */
  private static int place(int cell) {
    return cell == 4 ? 19 : 6 + 2 * cell;
  }

  private static void changeEdges(int what, int least, int most) {
    for (int v : new int[] {least, most}) {
      BootSale x = Stands.market();
      x.change(1, what, v);
      due("change to " + v, x.change(1, what, v), v);
      due("none is refused", x.status(12), 0);
    }
    for (int v : outside(least, most)) bad("change to " + v, x -> x.change(1, what, v));
  }

  /** The SALE is one STATEMENT, by which that number of thing 0 is so. */
  private static void sold(String text, int cell, int want) {
    BootSale x = Stands.market();
    due("sale of '" + text + "'", sale(x, text), 1);
    due("it is", x.thingOf(0, cell), want);
  }

  private static void buyers() {
    term(1, "HOURS are 0 (six) to 6 (noon).", () -> {
      hourEdges("price", x -> x.price(0, 0), x -> x.price(0, 6));
      hourEdges("on", x -> x.on(0), x -> x.on(6));
      hourEdges("rain", x -> x.rain(0), x -> x.rain(6));
      hourEdges("buyer", x -> x.buyer(0, LAST, 9), x -> x.buyer(6, LAST, 9));
      for (int h : outside(0, 6)) {
        bad("price in " + h, x -> x.price(0, h));
        bad("on in " + h, x -> x.on(h));
        bad("buyer of " + h, x -> x.buyer(h, LAST, 9));
        refusedFar("rain from " + h, Stands::stand, x -> x.rain(h), BAD);
      }
    });
    term(1, "BUYERS come one after the other, by HOURS and in each as they were told, 24 at most:", () -> {
      BootSale x = new BootSale();
      int[] hours = {6, 0, 3, 0, 6, 3};
      for (int i = 0; i < 6; i++) x.buyer(hours[i], DEALER, 10 + i);
      int[] purses = {11, 13, 12, 15, 10, 14};
      for (int place = 0; place < 6; place++) due("purse at " + place, x.buyerOf(place, 2), purses[place]);
      for (int i = 6; i < 24; i++) due("another", x.buyer(6, DEALER, 9), i);
      due("how many", x.status(1), 24);
      refused("a 25th, at six", Stands::fullList, y -> y.buyer(0, DEALER, 9), FULL);
      refused("a 25th, at noon", Stands::fullList, y -> y.buyer(6, DEALER, 9), FULL);
    });
    term(1, "an HOUR, a SORT (0 DEALER, 1 FAMILY, 2 LOOKER, 3 LAST), a PURSE (1 to 99).", () -> {
      for (int sort : new int[] {0, 3}) {
        for (int purse : new int[] {1, 99}) {
          BootSale x = new BootSale();
          due("buyer", x.buyer(0, sort, purse), 0);
          due("SORT", x.buyerOf(0, 1), sort);
          due("PURSE", x.buyerOf(0, 2), purse);
          due("as a SALE", sale(x, "buyer 6 " + sort + " " + purse), 1);
          due("HOUR", x.buyerOf(1, 0), 6);
          due("SORT", x.buyerOf(1, 1), sort);
          due("PURSE", x.buyerOf(1, 2), purse);
        }
      }
      for (int sort : outside(0, 3)) bad("SORT " + sort, x -> x.buyer(0, sort, 9));
      for (int purse : outside(1, 99)) bad("PURSE " + purse, x -> x.buyer(0, DEALER, purse));
      fault("buyer 7 0 9", Stands::market, 6);
      fault("buyer 0 4 9", Stands::market, 8);
      fault("buyer 0 0 0", Stands::market, 10);
      fault("buyer 0 0 100", Stands::market, 10);
      BootSale x = new BootSale();
      x.thing(THING, 99, 1, 0, 0);
      int[] pays = {49, 59, 29, 19};
      for (int sort = 0; sort < 4; sort++) due("what SORT " + sort + " pays", x.pays(sort, 0, 0), pays[sort]);
    });
  }

  private static void hourEdges(String call, ToLongFunction<BootSale> six, ToLongFunction<BootSale> noon) {
    for (ToLongFunction<BootSale> edge : List.of(six, noon)) {
      BootSale x = Stands.market();
      due(call + " isn't refused", edge.applyAsLong(x) >= 0 ? 1 : 0, 1);
      due(call + " isn't counted", x.status(12), 0);
    }
  }

  private static void settings() {
    term(1, "The TABLE has FEET (1 to 30; 9 at first).", () -> setting(FEET, "feet", 1, 30, 9));
    term(1, "FALL (0 to 14 of a hundred; 0 at first)", () -> setting(FALL, "fall", 0, 14, 0));
    term(1, "FRIEND (0 or 1; 0 at first: one stands there all morning)", () -> {
      setting(FRIEND, "friend", 0, 1, 0);
      BootSale x = new BootSale();
      x.buyer(0, LOOKER, 9);
      x.buyer(6, LOOKER, 9);
      x.ask(FRIEND, 1);
      due("a LOOKER at six", x.comes(0), 1);
      due("a LOOKER at noon", x.comes(1), 1);
    });
    term(1, "TIP (0 to 9; 1 at first: what a foot costs that is left).", () -> {
      setting(TIP, "tip", 0, 9, 1);
      BootSale x = new BootSale();
      x.thing(THING, 9, 1, 0, 0);
      due("a foot at first", x.home(), 1);
      x.ask(TIP, 0);
      due("a foot for nothing", x.home(), 0);
      x.ask(TIP, 9);
      due("a foot for nine", x.home(), 9);
    });
  }

  private static void setting(int what, String word, int least, int most, int first) {
    due(word + " at first", new BootSale().status(2 + what), first);
    for (int v : new int[] {least, most}) {
      BootSale x = new BootSale();
      due("ask for " + v, x.ask(what, v), first);
      due("it is", x.status(2 + what), v);
      BootSale y = new BootSale();
      due("as a SALE", sale(y, word + " " + v), 1);
      due("it is", y.status(2 + what), v);
    }
    for (int v : outside(least, most)) bad("ask for " + v, x -> x.ask(what, v));
    fault(word + " " + (most + 1), Stands::market, word.length() + 1);
    if (least > 0) fault(word + " " + (least - 1), Stands::market, word.length() + 1);
  }

  private static void tapeAndTokens() {
    term(1, "A SALE is read from THE TAPE (bytes, 250 at most).", () -> {
      BootSale x = Stands.fullTape();
      due("a SALE of 250 bytes", x.sale(), 2);
      due("TIP", x.status(5), 7);
      due("FEET", x.status(2), 1);
      refused("a 251st byte", Stands::fullTape, y -> y.feed(' '), FULL);
      for (int letter : outside(0, 255)) bad("byte " + letter, y -> y.feed(letter));
    });
    term(1, "TOKENS, each as long as can be:", () -> {
      fault("feets 9", Stands::market, 0);
      fault("fee t 9", Stands::market, 0);
      fault("fee 9", Stands::market, 0);
      fault("feet 1 2", Stands::market, 7);
      // "099" is one NUMBER, not a 0 and a 99
      fault("mark 099", Stands::market, 5);
      due("a WORD ends where digits begin, a NUMBER where letters do",
          sale(new BootSale(), "thing0 9 1 0with9;feet9;tip0"), 3);
    });
    term(1, "WORDS (a .. z), NUMBERS (digits), the SIGN ; -", () -> {
      // a and z belong to WORDS, what stands just ahead of and behind them doesn't
      fault("afeet 9", Stands::market, 0);
      fault("feetz 9", Stands::market, 0);
      fault("feet 9 a`", Stands::market, 7);
      fault("feet` 9", Stands::market, 4);
      fault("feet{ 9", Stands::market, 4);
      fault("Feet 9", Stands::market, 0);
      due("digits 0 and 9", sale(new BootSale(), "thing 0 90 9 09"), 1);
      fault("feet 9/", Stands::market, 6);
      fault("feet 9:", Stands::market, 6);
      fault("feet 9<", Stands::market, 6);
      fault("feet :", Stands::market, 5);
      fault("feet /", Stands::market, 5);
      fault("feet -9", Stands::market, 5);
    });
    term(1, "blanks (32) may stand anywhere between.", () -> {
      BootSale x = new BootSale();
      due("blanks ahead, between, behind", sale(x, "   feet   12  ;   tip  3   "), 2);
      due("FEET", x.status(2), 12);
      due("TIP", x.status(5), 3);
      due("no blanks", sale(x, "feet7;tip2"), 2);
      due("FEET", x.status(2), 7);
      for (char sign : new char[] {0, 9, 10, 13, 31, 33, 127, 160, 255}) fault("feet" + sign + "9", Stands::market, 4);
    });
  }

  private static void statements() {
    term(1, "STATEMENTS, one or more, with ; between:", () -> {
      due("one", sale(new BootSale(), "tip 1"), 1);
      due("two", sale(new BootSale(), "tip 1;tip 2"), 2);
      StringBuilder many = new StringBuilder("tip0");
      while (many.length() + 5 <= 250) many.append(";tip9");
      BootSale x = new BootSale();
      due("fifty", sale(x, many.toString()), 50);
      due("TIP", x.status(5), 9);
      fault("", Stands::market, 0);
      fault(";tip 1", Stands::market, 0);
      fault("tip 1;", Stands::market, 6);
      fault("tip 1;;tip 2", Stands::market, 6);
      fault("tip 1 tip 2", Stands::market, 6);
    });
    term(1, "thing K W R O (KIND, WORTH, ROOM, OWN), perhaps with A;", () -> {
      BootSale x = new BootSale();
      due("without", sale(x, "thing 4 50 3 10"), 1);
      due("with", sale(x, "thing 5 51 4 11 with 7"), 1);
      int[][] want = {{4, 50, 3, 10, 0, 50, 0}, {5, 51, 4, 11, 7, 51, 0}};
      for (int n = 0; n < 2; n++) {
        for (int what = 0; what < 7; what++) due("thing " + n + ", " + what, x.thingOf(n, what), want[n][what]);
      }
      BootSale y = new BootSale();
      due("with, then without", sale(y, "thing 4 50 3 10 with 7;thing 5 51 4 11"), 2);
      due("a of the first", y.thingOf(0, 4), 7);
      due("a of the second", y.thingOf(1, 4), 0);
      due("without, by a SALE of its own", sale(y, "thing 4 50 3 10"), 1);
      due("a of the third", y.thingOf(2, 4), 0);
      fault("thing 4 50 3", Stands::market, 12);
      fault("thing 4 50 3;", Stands::market, 12);
      fault("thing 4 50 3 with 7", Stands::market, 13);
      fault("thing 4 50 3 10 7", Stands::market, 16);
      fault("thing 4 50 3 10 with", Stands::market, 20);
      fault("thing 4 50 3 10 with;", Stands::market, 20);
      fault("thing 4 50 3 10 with 7 7", Stands::market, 23);
      fault("thing 4 50 3 10 with 7 with 7", Stands::market, 23);
      fault("thing 4 50 3 10 without 7", Stands::market, 16);
      fault("thing with 7", Stands::market, 6);
      fault("thing", Stands::market, 5);
    });
    term(1, "buyer H S P;", () -> {
      BootSale x = new BootSale();
      due("buyer", sale(x, "buyer 6 3 99"), 1);
      int[] want = {6, 3, 99};
      for (int what = 0; what < 3; what++) due("buyer, " + what, x.buyerOf(0, what), want[what]);
      fault("buyer 6 3", Stands::market, 9);
      fault("buyer 6 3;", Stands::market, 9);
      fault("buyer 6 3 99 1", Stands::market, 13);
      fault("buyer 6 3 99 with 1", Stands::market, 13);
    });
    term(1, "mark T N; from T N;", () -> {
      pairs("mark", 5);
      pairs("from", 6);
    });
    term(1, "feet N; fall N; friend N; tip N.", () -> {
      for (String word : new String[] {"feet", "fall", "friend", "tip"}) {
        due(word, sale(new BootSale(), word + " 1"), 1);
        fault(word, Stands::market, word.length());
        fault(word + ";", Stands::market, word.length());
        fault(word + " x", Stands::market, word.length() + 1);
        fault(word + " 1 1", Stands::market, word.length() + 3);
      }
      for (String word : new String[] {"with", "room", "own", "a", "hour", "thin", "things"}) fault(word + " 1", Stands::market, 0);
      fault("1", Stands::market, 0);
      for (String text : new String[] {"thing 0 9 1 0", "buyer 0 0 9", "mark 0 9", "from 0 5", "feet 9", "fall 9", "friend 1", "tip 9"}) {
        for (int i = 0; i < text.indexOf(' '); i++) {
          fault(text.substring(0, i) + "x" + text.substring(i + 1), Stands::market, 0);
          fault(text.substring(0, i) + text.substring(i + 1), Stands::market, 0);
        }
      }
      for (String with : new String[] {"xith", "wxth", "wixh", "witx", "wit", "ith"}) {
        fault("thing 0 9 1 0 " + with + " 3", Stands::market, 14);
      }
    });
  }

  /** A word with a THING's number and another one; the market's things are 0, 1 and 2. */
  private static void pairs(String word, int cell) {
    BootSale x = Stands.market();
    due("the first", sale(x, word + " 0 3"), 1);
    due("it is", x.thingOf(0, cell), 3);
    due("the last", sale(x, word + " 2 4"), 1);
    due("it is", x.thingOf(2, cell), 4);
    fault(word + " 3 4", Stands::market, 5);
    fault(word + " 0 4", Stands::empty, 5);
    fault(word + " 0", Stands::market, 6);
    fault(word + " 0;", Stands::market, 6);
    fault(word + " 0 4 4", Stands::market, 9);
    fault(word, Stands::market, 4);
    due("one that the SALE itself brings", sale(x, "thing 0 9 1 0;" + word + " 3 5"), 2);
    due("it is", x.thingOf(3, cell), 5);
    fault(word + " 3 5;thing 0 9 1 0", Stands::market, 5);
  }

  private static void comesOrNot() {
    term(1, "All comes to what there is, or nothing.", () -> {
      String eight = "thing 1 2 3 4 with 5;buyer 0 0 1;mark 0 2;from 1 3;feet 4;fall 5;friend 1;tip 7";
      BootSale x = Stands.market();
      due("all of it", sale(x, eight), 8);
      due("things", x.status(0), 4);
      due("buyers", x.status(1), 4);
      due("the new one, behind those of its HOUR", x.buyerOf(1, 2), 1);
      due("MARK", x.thingOf(0, 5), 2);
      due("FROM", x.thingOf(1, 6), 3);
      int[] settings = {4, 5, 1, 7};
      for (int what = 0; what < 4; what++) due("setting " + what, x.status(2 + what), settings[what]);
      // the fault's helper sees to it that nothing has come of what stands ahead of it
      fault(eight + ";", Stands::market, eight.length() + 1);
      fault(eight + " 1", Stands::market, eight.length() + 1);
      fault(eight + ";tip 10", Stands::market, eight.length() + 5);
    });
  }

  private static void faults() {
    term(1, "The FAULT: the place of the first byte of the first TOKEN that can't stand there", () -> {
      fault("x", Stands::market, 0);
      fault("   xyz", Stands::market, 3);
      fault("tip 1;feet 2; xyz 3", Stands::market, 14);
      // of several the first
      fault("tip x;x;x", Stands::market, 4);
      fault("feet 0;feet 99", Stands::market, 5);
      fault("thing 9 0 0", Stands::market, 6);
    });
    term(1, "(also a NUMBER that may not be, or has more than 2 digits;", () -> {
      fault("feet 31", Stands::market, 5);
      fault("feet 009", Stands::market, 5);
      fault("tip 000", Stands::market, 4);
      fault("mark 0 100", Stands::market, 7);
      fault("mark 000 9", Stands::market, 5);
      fault("feet 99999999999999999999", Stands::market, 5);
      // 2 to the 32nd and 9: cut to an int it would be 9
      fault("feet 4294967305", Stands::market, 5);
      due("two digits", sale(new BootSale(), "feet 09;tip 00;thing 05 01 01 00 with 09"), 3);
    });
    term(1, "what there is no room for: its word;", () -> {
      due("an eighth thing", sale(seven(), "thing 0 9 1 0"), 1);
      fault("thing 0 9 1 0", Stands::eightThings, 0);
      fault("  thing", Stands::eightThings, 2);
      fault("thing 9 x", Stands::eightThings, 0);
      fault("thing 0 9 1 0;  thing 0 9 1 0", SaleTerms::seven, 16);
      fault("buyer 0 0 1", Stands::fullList, 0);
      fault(" buyer", Stands::fullList, 1);
      fault("buyer 9 x", Stands::fullList, 0);
      fault("tip 1;buyer 0 0 1", Stands::fullList, 6);
      due("a full list has room for things", sale(Stands.fullList(), "thing 0 9 1 0"), 1);
      due("eight things leave room for buyers", sale(Stands.eightThings(), "buyer 0 0 9"), 1);
      BootSale y = Stands.fullList();
      y.clear();
      StringBuilder text = new StringBuilder("buyer 0 0 1");
      for (int i = 1; i < 19; i++) text.append(";buyer 0 0 1");
      for (int i = 0; i < 5; i++) y.buyer(0, 0, 1);
      due("19 more are 24", sale(y, text.toString()), 19);
      fault(text.toString(), SaleTerms::sixBuyers, 18 * 12);
    });
    term(1, "a byte that begins none);", () -> {
      fault("\u00e9", Stands::market, 0);
      fault("feet 9;\u00ff", Stands::market, 7);
      fault("feet 9\u0000", Stands::market, 6);
      fault("feet,9", Stands::market, 4);
      fault("  #", Stands::market, 2);
    });
    term(1, "THE TAPE's size, if it ends too early.", () -> {
      fault("", Stands::market, 0);
      fault("  ", Stands::market, 2);
      fault("feet", Stands::market, 4);
      fault("feet   ", Stands::market, 7);
      fault("feet 9;", Stands::market, 7);
      fault("feet 9;  ", Stands::market, 9);
      fault("thing 0 9 1 0 with ", Stands::market, 19);
      refused("250 bytes", Stands::empty, x -> sale(x, "feet 9;tip" + " ".repeat(240)), BAD, -270);
      refused("250 bytes, the last a letter", Stands::empty, x -> sale(x, " ".repeat(247) + "tip"), BAD, -270);
      due("250 bytes, the last a digit", sale(new BootSale(), " ".repeat(246) + "tip9"), 1);
      fault(" ".repeat(40) + "tip9;", Stands::empty, 45);
      // of a longer TAPE that was ahead nothing is read
      for (String behind : new String[] {"x", "9", ";", " 9", ";tip 9"}) {
        BootSale y = new BootSale();
        feed(y, "feet" + behind);
        y.wipe();
        due("behind 'feet" + behind + "'", sale(y, "feet"), -24);
        feed(y, "feet 1" + behind);
        y.wipe();
        due("behind 'feet 1" + behind + "'", sale(y, "feet 1"), 1);
        due("FEET", y.status(2), 1);
        due("TIP", y.status(5), 1);
      }
    });
  }

  private static BootSale seven() {
    BootSale x = new BootSale();
    for (int i = 0; i < 7; i++) x.thing(THING, 9, 1, 0, 0);
    return x;
  }

  private static BootSale sixBuyers() {
    BootSale x = new BootSale();
    for (int i = 0; i < 6; i++) x.buyer(0, DEALER, 9);
    return x;
  }
}

/** Objects that the tests begin with. */
final class Stands {
  private Stands() { }

  static BootSale empty() {
    return new BootSale();
  }

  /**
   * Nine feet, TIP 1, no FALL. At six 0 and 1 are on (7 feet): the dealer pays 11 for thing 0, its price,
   * and 5 for thing 1, less than its price. Then 1 and 2 are on (8 feet): the family pays 6 for thing 1,
   * its price, and 25 for thing 2, less than its price. At noon the last one would pay 8 for thing 2,
   * whose OWN is 5, but has only 3. TAKEN 17, LEFT thing 2, HOME 5, GAIN 12.
   */
  static BootSale market() {
    BootSale x = new BootSale();
    addMarket(x);
    return x;
  }

  private static void addMarket(BootSale x) {
    x.thing(Check.THING, 20, 4, 2, 0);
    x.thing(Check.DRAWING, 10, 3, 1, 0);
    x.thing(Check.SOUGHT, 40, 5, 5, 0);
    x.change(0, Check.MARK, 11);
    x.change(1, Check.MARK, 6);
    x.change(2, Check.MARK, 30);
    x.buyer(0, Check.DEALER, 40);
    x.buyer(1, Check.FAMILY, 40);
    x.buyer(6, Check.LAST, 3);
  }

  /**
   * The market, and something of all else: two MORNINGS gone (COIN 42), an image of the state between, SEED 77,
   * shelf 0: INTS 11, 7, 500, 3; 1: thing 2; 3: 40 LONGS, the last 5; 4: no BYTES; 5: thing 0; 2, 6, 7: NOTHING;
   * on THE TAPE: feet 1.
   */
  static BootSale stand() {
    BootSale x = new BootSale();
    x.thing(Check.BOXED, 9, 2, 1, 9);
    x.buyer(0, Check.FAMILY, 99);
    x.morning();
    x.thing(Check.SMALL, 33, 2, 3, 4);
    x.buyer(3, Check.LOOKER, 33);
    x.ask(Check.FEET, 5);
    x.seed(-7);
    x.image();
    x.buyer(3, Check.FAMILY, 60);
    x.morning();
    x.ask(Check.FEET, 9);
    x.seed(77);
    addMarket(x);
    x.row(0, Check.INTS, 4);
    int[] told = {11, 7, 500, 3};
    for (int i = 0; i < 4; i++) x.set(0, i, told[i]);
    x.show(1, 2);
    x.row(3, Check.LONGS, 40);
    x.set(3, 39, 5);
    x.row(4, Check.BYTES, 0);
    x.show(5, 0);
    Check.feed(x, "feet 1");
    return x;
  }

  /** Eight things by their numbers: worth 10 on, a foot each; shelf 0: thing 7. */
  static BootSale eightThings() {
    BootSale x = new BootSale();
    for (int i = 0; i < 8; i++) x.thing(Check.THING, 10 + i, 1, i, i);
    x.show(0, 7);
    return x;
  }

  /** 24 buyers by their purses: 1 on, four in each hour but the last; shelf 0: a ROW with a buyer. */
  static BootSale fullList() {
    BootSale x = new BootSale();
    for (int i = 0; i < 24; i++) x.buyer(i / 4, i % 4, 1 + i);
    x.row(0, Check.BYTES, 6);
    x.set(0, 2, 9);
    return x;
  }

  /** 250 bytes on THE TAPE, the last a blank. */
  static BootSale fullTape() {
    BootSale x = new BootSale();
    Check.feed(x, "tip 7;feet 1");
    for (int i = 12; i < 250; i++) x.feed(' ');
    return x;
  }

  /** Things that are all alike, of one foot: 50 worth, to be had for the mark. */
  static BootSale alike(int things, int mark) {
    BootSale x = new BootSale();
    for (int i = 0; i < things; i++) {
      x.thing(Check.THING, 50, 1, 0, 0);
      x.change(i, Check.MARK, mark);
    }
    return x;
  }
}

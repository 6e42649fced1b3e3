import java.util.ArrayList;
import java.util.List;
import java.util.function.Supplier;
import java.util.function.ToLongFunction;

/** What every test here is made of: a sentence of the document, and the answers that are due by it. */
abstract class Check {
  static final int NONE = -1;
  static final int BAD = -2, OTHER = -3, NOTHING = -4, STUCK = -5, FULL = -6;
  static final int FAR = -1000000;
  static final int THING = 0, SOUGHT = 1, DRAWING = 2, SMALL = 3, DOUBTFUL = 4, BOXED = 5;
  static final int DEALER = 0, FAMILY = 1, LOOKER = 2, LAST = 3;
  static final int BYTES = 0, SHORTS = 1, INTS = 2, LONGS = 3, BOOLEANS = 4;
  /** What change() takes. */
  static final int WORTH = 0, OWN = 1, MARK = 2, FROM = 3;
  /** What ask() takes. */
  static final int FEET = 0, FALL = 1, FRIEND = 2, TIP = 3;
  static final int MAX = Integer.MAX_VALUE, MIN = Integer.MIN_VALUE;

  private static String at = "";
  private static int tests;
  private static int dues;
  private static int wrong;

  /** A test of what stands ahead of the terms. */
  static void head(String part, String sentence, Runnable test) {
    run(part, sentence, test);
  }

  /** A test of a sentence of the terms: 1, 2 or 3. */
  static void term(int part, String sentence, Runnable test) {
    run("Terms " + part, sentence, test);
  }

  /** A test of a sentence of a promise. */
  static void promise(int number, String sentence, Runnable test) {
    run("Promise " + number, sentence, test);
  }

  /** A test of a sentence on refusals in common. */
  static void refusals(String sentence, Runnable test) {
    run("REFUSALS", sentence, test);
  }

  private static void run(String part, String sentence, Runnable test) {
    at = part + ", \"" + sentence + "\"";
    tests++;
    int before = dues;
    if (!Doc.hold(part, sentence)) complain("the document doesn't say so there");
    test.run();
    if (dues == before) complain("nothing is asked");
  }

  private static void complain(String what) {
    wrong++;
    System.out.println(at + ": " + what);
  }

  static void due(String call, long got, long want) {
    dues++;
    if (got != want) complain(call + " answered " + got + ", due is " + want);
  }

  /** The numbers next to a range, and those farthest from it. */
  static int[] outside(int least, int most) {
    return new int[] {least - 1, most + 1, MIN, MAX};
  }

  static int feed(BootSale x, String text) {
    int size = 0;
    for (int i = 0; i < text.length(); i++) size = x.feed(text.charAt(i));
    return size;
  }

  static int sale(BootSale x, String text) {
    feed(x, text);
    return x.sale();
  }

  static void bad(String call, ToLongFunction<BootSale> act) {
    refused(call, Stands::stand, act, BAD, BAD);
  }

  static void refused(String call, Supplier<BootSale> stand, ToLongFunction<BootSale> act, int refusal) {
    refused(call, stand, act, refusal, refusal);
  }

  /** Of a call whose answer may be below 0. */
  static void refusedFar(String call, Supplier<BootSale> stand, ToLongFunction<BootSale> act, int refusal) {
    refused(call, stand, act, refusal, FAR + refusal);
  }

  /** A SALE that is refused with this FAULT; the stand's TAPE must be empty. */
  static void fault(String text, Supplier<BootSale> stand, int place) {
    refused("sale of '" + text + "'", stand, x -> sale(x, text), BAD, -20 - place);
  }

  /**
   * The call is refused with this answer, this refusal is counted, and no other; for the rest the
   * object is as a twin without the call: what it tells, THE TAPE's bytes, what image() has kept.
   */
  static void refused(String call, Supplier<BootSale> stand, ToLongFunction<BootSale> act, int refusal, long answer) {
    BootSale x = stand.get();
    BootSale twin = stand.get();
    due(call, act.applyAsLong(x), answer);
    for (int r = BAD; r >= FULL; r--) {
      due(call + ": how many " + r, x.status(10 - r), twin.status(10 - r) + (r == refusal ? 1 : 0));
    }
    due(call + ": is as it was", firstChange(seen(x), seen(twin)), 0);
  }

  /** The call is taken: none is counted as refused. */
  static void taken(String call, Supplier<BootSale> stand, ToLongFunction<BootSale> act, long answer) {
    BootSale x = stand.get();
    BootSale twin = stand.get();
    due(call, act.applyAsLong(x), answer);
    for (int r = BAD; r >= FULL; r--) due(call + ": how many " + r, x.status(10 - r), twin.status(10 - r));
  }

  /** The call is taken and nothing at all changes by it. */
  static void changesNothing(String call, Supplier<BootSale> stand, ToLongFunction<BootSale> act, long answer) {
    taken(call, stand, act, answer);
    BootSale x = stand.get();
    act.applyAsLong(x);
    due(call + ": is as it was", firstChange(seen(x), seen(stand.get())), 0);
  }

  private static int firstChange(List<String> is, List<String> was) {
    for (int i = 0; i < Math.max(is.size(), was.size()); i++) {
      String now = i < is.size() ? is.get(i) : "no more";
      String then = i < was.size() ? was.get(i) : "no more";
      if (now.equals(then)) continue;
      System.out.println("  changed: " + now + ", without the call " + then);
      return 1;
    }
    return 0;
  }

  /** All that the object tells, then what its TAPE was and what is kept of it; the object is used up by that. */
  static List<String> seen(BootSale x) {
    List<String> all = new ArrayList<>();
    look(x, all);
    all.add("a byte more: " + x.feed('7'));
    all.add("its sale: " + x.sale());
    all.add("feet then: " + x.status(2));
    all.add("back: " + x.back());
    look(x, all);
    return all;
  }

  private static void look(BootSale x, List<String> all) {
    for (int what = 0; what <= 11; what++) all.add("status " + what + ": " + x.status(what));
    int things = x.status(0);
    for (int thing = 0; thing < things; thing++) {
      for (int what = 0; what < 7; what++) all.add("thing " + thing + ", " + what + ": " + x.thingOf(thing, what));
    }
    int buyers = x.status(1);
    for (int place = 0; place < buyers; place++) {
      for (int what = 0; what < 3; what++) all.add("buyer " + place + ", " + what + ": " + x.buyerOf(place, what));
    }
    for (int s = 0; s < 8; s++) {
      int holds = x.holds(s);
      all.add("shelf " + s + ": " + holds);
      if (holds < 0 || holds > 4) continue;
      for (int i : new int[] {0, 1, 2, 3, 4, 38, 39}) all.add("row " + s + ", " + i + ": " + x.element(s, i));
    }
    all.add("gain: " + x.gain());
    all.add("left: " + x.left());
  }

  /** 0 if all is as due. */
  static int end() {
    System.out.println(tests + " tests, " + dues + " answers, " + wrong + " not as due");
    return wrong;
  }
}

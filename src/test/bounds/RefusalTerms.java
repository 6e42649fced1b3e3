import java.util.function.ToLongFunction;

/** REFUSALS in common: each number, that it is counted by itself, and what calls that may be below 0 answer. */
final class RefusalTerms extends Check {
  static void all() {
    refusals("REFUSALS (the call answers the number; nothing changes but how many there were;", () -> {
      BootSale x = Stands.stand();
      int[] answers = {x.row(8, 0, 0), x.row(0, 5, 0), x.set(1, 0, 0), x.set(2, 0, 0), x.judge(6), x.marks(0), x.offer(0, 2, 9)};
      int[] want = {BAD, BAD, OTHER, NOTHING, NOTHING, STUCK, STUCK};
      for (int i = 0; i < want.length; i++) due("call " + i, answers[i], want[i]);
      int[] counts = {2, 1, 2, 2, 0};
      for (int i = 0; i < 5; i++) due("how many " + (-2 - i), x.status(12 + i), counts[i]);
      // a call that was refused may be taken later
      BootSale y = new BootSale();
      due("no such THING", y.show(0, 0), BAD);
      y.thing(THING, 9, 1, 0, 0);
      due("there is now", y.show(0, 0), 1);
      due("that one is counted for ever", y.status(12), 1);
      for (int i = 0; i < 400; i++) y.row(8, 0, 0);
      due("and 400 more", y.status(12), 401);
    });
    refusals("the first that fits as each line has them):", () -> {
      // more than one would do
      refused("set: a THING, BAD i", Stands::stand, x -> x.set(1, -1, 0), OTHER);
      refused("set: NOTHING, BAD i", Stands::stand, x -> x.set(2, 40, 0), NOTHING);
      refused("copy: BAD SHELF, a THING", Stands::stand, x -> x.copy(8, 1, 0, 0, 0), BAD);
      refused("copy: a THING, NOTHING", Stands::stand, x -> x.copy(2, 1, 0, 0, 0), OTHER);
      refused("says: BAD KIND, a ROW", Stands::stand, x -> x.says(0, 6), BAD);
      refused("thing: BAD, FULL", Stands::eightThings, x -> x.thing(6, 9, 1, 0, 0), BAD);
      refused("buyers: BAD number, FULL", Stands::fullList, x -> x.buyers(0, 6), BAD);
      refused("feed: BAD, FULL", Stands::fullTape, x -> x.feed(256), BAD);
      refused("offer: BAD v, STUCK", Stands::stand, x -> x.offer(0, 2, 100), BAD);
    });
    refusals("-2 BAD a number that may not be, nothing of that number.", () -> {
      bad("a number that may not be", x -> x.ask(TIP, 10));
      bad("no THING of that number", x -> x.thingOf(3, 0));
      bad("no BUYER at that place", x -> x.buyerOf(3, 0));
      bad("no SHELF of that number", x -> x.judge(8));
    });
    refusals("-3 OTHER: a SHELF that holds another thing than is wanted.", () -> {
      refused("a THING where a ROW is wanted", Stands::stand, x -> x.judge(1), OTHER);
      refused("a ROW where a THING is wanted", Stands::stand, x -> x.says(0, THING), OTHER);
      refused("a THING of another KIND", Stands::stand, x -> x.says(1, SMALL), OTHER);
    });
    refusals("-4 NOTHING: a SHELF that holds NOTHING.", () -> {
      refused("where a ROW is wanted", Stands::stand, x -> x.judge(2), NOTHING);
      refused("where a THING is wanted", Stands::stand, x -> x.says(2, THING), NOTHING);
    });
    refusals("-5 STUCK: it can't be as things stand.", () -> {
      refused("marks that may not be", Stands::stand, x -> x.marks(0), STUCK);
      refused("nothing kept", Stands::market, BootSale::back, STUCK);
      refused("no THINGS", Stands::empty, BootSale::dearest, STUCK);
      refused("not ON", Stands::stand, x -> x.least(0, 2), STUCK);
    });
    refusals("-6 FULL.", () -> {
      refused("THINGS", Stands::eightThings, x -> x.thing(THING, 9, 1, 0, 0), FULL);
      refused("BUYERS", Stands::fullList, x -> x.buyer(0, DEALER, 9), FULL);
      refused("bytes", Stands::fullTape, x -> x.feed(0), FULL);
    });
    refusals("(Calls that tell GAIN, or by how much, which may be below 0, answer -1000000 and the number.)", () -> {
      far("marked", x -> x.marked(3));
      far("rain", x -> x.rain(7));
      far("neighbour", x -> x.neighbour(3, 9, 0));
      far("worthy", x -> x.worthy(3));
      far("ahead", x -> x.ahead(3));
      far("told", x -> x.told(8));
      refusedFar("told, a THING", Stands::stand, x -> x.told(1), OTHER);
      refusedFar("told, NOTHING", Stands::stand, x -> x.told(2), NOTHING);
      refusedFar("told, it may not be", Stands::stand, x -> x.told(0), STUCK);
      BootSale x = Stands.market();
      x.ask(TIP, 9);
      due("below 0 is no refusal", x.gain(), -28);
      due("nor by how much", x.worthy(1), 12 - 41 - 40);
      due("none is counted", x.status(12), 0);
    });
  }

  private static void far(String call, ToLongFunction<BootSale> act) {
    refusedFar(call, Stands::stand, act, BAD);
  }
}

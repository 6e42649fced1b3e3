import java.lang.reflect.Constructor;
import java.lang.reflect.Field;
import java.lang.reflect.Method;
import java.lang.reflect.Modifier;
import java.util.ArrayList;
import java.util.List;
import java.util.TreeSet;
import java.util.function.ToLongFunction;

/** What stands ahead of the terms: what there is in a word or two, how many calls there may be, the public face. */
final class HeadTerms extends Check {
  private static final String IS = "What it is";
  private static final String FACE = "The public face";
  private static final int CALLS = 512;

  static void all() {
    brought();
    sold();
    thought();
    calls();
    members();
  }

  private static void brought() {
    head(IS, "A table at the boot sale: nine feet,", () -> {
      due("FEET", new BootSale().status(2), 9);
      BootSale x = Stands.alike(2, 9);
      due("two of a foot", x.on(0), 3);
    });
    head(IS, "things out of a loft by kinds, sought ones, ones that draw, small ones, doubtful ones, a box;", () -> {
      BootSale x = new BootSale();
      for (int kind = THING; kind <= BOXED; kind++) {
        due("a thing", x.thing(kind, 9, 1, 0, 0), kind);
        due("its KIND", x.thingOf(kind, 0), kind);
      }
    });
    head(IS, "dealers with lamps, families, lookers who come only when somebody stands there, last takers;", () -> {
      BootSale x = new BootSale();
      for (int sort = DEALER; sort <= LAST; sort++) due("a buyer", x.buyer(sort, sort, 9), sort);
      for (int sort = DEALER; sort <= LAST; sort++) due("its SORT", x.buyerOf(sort, 1), sort);
      for (int sort = DEALER; sort <= LAST; sort++) due("comes", x.comes(sort), sort == LOOKER ? 0 : 1);
      x.ask(FRIEND, 1);
      due("somebody stands there", x.comes(LOOKER), 1);
    });
  }

  private static void sold() {
    head(IS, "what each would pay, what falls by hours, what is bought by whom, what is left and taken home;", () -> {
      BootSale x = Stands.market();
      int[] pays = {10, 12, 6, 4};
      for (int sort = DEALER; sort <= LAST; sort++) due("what SORT " + sort + " would pay", x.pays(sort, 0, 0), pays[sort]);
      x.ask(FALL, 10);
      due("what falls", x.price(2, 1), 27);
      x.ask(FALL, 0);
      due("what is bought", x.buys(0), 0);
      due("by whom", x.who(1), 1);
      due("what is left", x.left(), 4);
      due("what is taken home", x.home(), 5);
    });
  }

  private static void thought() {
    head(IS, "what to put on the table, when, at what price, by which falling, whether to take what is offered, what rain costs, "
        + "a neighbour with the same, what a quick yes tells, told prices judged,", () -> {
      BootSale x = Stands.stand();
      due("what to put on the table", x.table(), 5);
      due("when", x.bestFrom(0), 1);
      due("at what price", x.bestMark(2), 24);
      due("by which falling", x.bestFall(), 0);
      due("whether to take what is offered", x.offer(0, 0, 12), 1);
      due("what rain costs", x.rain(1), 9);
      due("a neighbour with the same", x.neighbour(0, 10, 0), 9);
      due("what a quick yes tells", x.quick(SOUGHT, 0, 36), 40);
      due("told prices judged", x.judge(0), 2);
    });
    head(IS, "sales read from texts, mornings in truth, buyers by draws.", () -> {
      BootSale x = Stands.market();
      due("a sale read from a text", sale(x, "mark 2 24"), 1);
      // the dealer 11, the family 24 for thing 2, the last one 1 for thing 1
      due("a morning in truth", x.morning(), 36);
      due("buyers by draws", x.draw(2), 2);
    });
  }

  private static void calls() {
    head(IS, "An object is used for at most 512 calls after it has been made; what later calls answer is free.", () -> {
      // whatever the calls are, the last of 512 answers as the first ones do
      same("gain", Stands.alike(8, 9), CALLS - 16, BootSale::gain, -8);
      same("a ROW", new BootSale(), CALLS - 1, x -> x.row(7, LONGS, 40), 1);
      same("an image", new BootSale(), CALLS - 1, BootSale::image, 1);
      same("a SEED", new BootSale(), CALLS - 1, x -> x.seed(1), 1);
      BootSale refusing = new BootSale();
      same("a refusal", refusing, CALLS - 2, BootSale::back, STUCK);
      due("how many", refusing.status(15), CALLS - 2);
      BootSale mornings = new BootSale();
      mornings.thing(THING, 99, 9, 0, 0);
      mornings.ask(TIP, 9);
      same("a morning", mornings, CALLS - 4, BootSale::morning, -81);
      due("COIN", mornings.status(6), -81 * (CALLS - 4));
      due("MORNINGS", mornings.status(7), CALLS - 4);
      BootSale fed = new BootSale();
      for (int i = 0; i < CALLS / 2 - 1; i++) {
        due("a byte", fed.feed('t'), 1);
        due("no SALE", fed.sale(), -20);
      }
      due("a byte", fed.feed(';'), 1);
      due("how many no SALES", fed.status(12), CALLS / 2 - 1);
      BootSale drawn = new BootSale();
      int seed = 1;
      for (int i = 0; i < CALLS / 2 - 1; i++) {
        due("24 BUYERS", drawn.draw(24), 24);
        due("all go", drawn.clear(), 24);
        for (int draw = 0; draw < 72; draw++) seed = seed * 1103515245 + 12345;
      }
      due("none are left", drawn.status(1), 0);
      due("SEED", drawn.status(9), seed);
    });
  }

  private static void same(String call, BootSale x, int times, ToLongFunction<BootSale> act, long want) {
    for (int i = 0; i < times; i++) due(call + ", time " + i, act.applyAsLong(x), want);
  }

  /** Each line of the document's face is a member of the class, and it has no other. */
  private static void members() {
    List<String> is = new ArrayList<>();
    is.add(Modifier.toString(BootSale.class.getModifiers()) + " class " + BootSale.class.getName() + " {");
    for (Field f : BootSale.class.getDeclaredFields()) {
      if (Modifier.isPrivate(f.getModifiers()) || f.isSynthetic()) continue;
      is.add(Modifier.toString(f.getModifiers()) + " " + f.getType() + " " + f.getName());
    }
    for (Constructor<?> c : BootSale.class.getDeclaredConstructors()) {
      is.add(Modifier.toString(c.getModifiers()) + " " + c.getName() + types(c.getParameterTypes()));
    }
    for (Method m : BootSale.class.getDeclaredMethods()) {
      if (Modifier.isPrivate(m.getModifiers()) || m.isSynthetic()) continue;
      is.add(Modifier.toString(m.getModifiers()) + " " + m.getReturnType() + " " + m.getName() + types(m.getParameterTypes()));
    }
    List<String> told = Doc.lines(FACE);
    List<String> want = new ArrayList<>();
    for (String line : told) {
      head(FACE, line, () -> {
        if (line.equals("}")) {
          due("the face's end", told.indexOf(line), told.size() - 1);
          return;
        }
        // NONE's value is asked for below; a parameter's name is free
        String member = line.replaceAll(" = -1;|;$", "").replaceAll("(int|long) \\w+(?=[,)])", "$1");
        want.add(member);
        due("members '" + member + "'", is.stream().filter(member::equals).count(), 1);
      });
    }
    head(FACE, "public static final int NONE = -1;", () -> {
      due("NONE", BootSale.NONE, -1);
      due("nothing else than " + new TreeSet<>(want), new TreeSet<>(is).equals(new TreeSet<>(want)) ? 1 : 0, 1);
      due("promises, and NONE, the constructor, the class", is.size(), 57);
    });
  }

  private static String types(Class<?>[] types) {
    List<String> names = new ArrayList<>();
    for (Class<?> type : types) names.add(type.getName());
    return "(" + String.join(", ", names) + ")";
  }
}

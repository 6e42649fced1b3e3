import java.util.ArrayList;
import java.util.List;
import java.util.Random;
import java.util.regex.Matcher;
import java.util.regex.Pattern;

/**
 * Runs of calls by fixed seeds, each answer held against a second, slow program
 * of the same document, which shares no thought with the first: it tries every
 * mark, keeps things by themselves instead of by numbers, and reads by patterns.
 */
public final class ModelTest {
  private static final int RUNS = 400;
  private static final int CALLS = 512;
  private static int wrong = 0;

  public static void main(String[] args) {
    for (int run = 0; run < RUNS && wrong == 0; run++) {
      goThrough(run);
    }
    ninthRound();
    System.out.println(wrong == 0 ? "model and class answer alike" : wrong + " answers differ");
    if (wrong != 0) System.exit(1);
  }

  // ---- the model ----

  static final class Refusal extends RuntimeException {
    private static final long serialVersionUID = 1L;
    final int code;
    Refusal(int code) { super(null, null, false, false); this.code = code; }
  }

  static final class Fault extends RuntimeException {
    private static final long serialVersionUID = 1L;
    final int place;
    Fault(int place) { super(null, null, false, false); this.place = place; }
  }

  static final class Thing {
    int kind, worth, room, own, a, mark, from;
    Thing copy() {
      Thing t = new Thing();
      t.kind = kind; t.worth = worth; t.room = room; t.own = own; t.a = a; t.mark = mark; t.from = from;
      return t;
    }
  }

  record Buyer(int hour, int sort, int purse) { }

  static final class Row {
    int sort;
    long[] v;
  }

  static final class World {
    List<Thing> things = new ArrayList<>();
    List<Buyer> buyers = new ArrayList<>();
    int feet = 9, fall = 0, friend = 0, tip = 1, coin = 0, mornings = 0, seed = 1;

    World copy() {
      World w = new World();
      for (Thing t : things) w.things.add(t.copy());
      w.buyers.addAll(buyers);
      w.feet = feet; w.fall = fall; w.friend = friend; w.tip = tip;
      w.coin = coin; w.mornings = mornings; w.seed = seed;
      return w;
    }

    int join(Buyer b) {
      int at = 0;
      for (int i = 0; i < buyers.size(); i++) if (buyers.get(i).hour() <= b.hour()) at = i + 1;
      buyers.add(at, b);
      return at;
    }

    int draw(int n) {
      long next = (seed * 1103515245L + 12345L) & 0xffffffffL;
      seed = (int) next;
      return (int) ((next / 65536) % n);
    }
  }

  static int price(World w, Thing t, int hour) {
    if (hour == 6) return t.own;
    int p = t.mark - (t.mark * w.fall * hour) / 100;
    return p < t.own ? t.own : p;
  }

  static List<Thing> lie(World w, int hour, List<Thing> gone) {
    List<Thing> on = new ArrayList<>();
    int used = 0;
    for (Thing t : w.things) {
      if (t.from > hour || gone.contains(t)) continue;
      if (used + t.room > w.feet) continue;
      used += t.room;
      on.add(t);
    }
    return on;
  }

  static int pay(int sort, int kind, int worth, int a, int drawn) {
    int[] tenths = {5, 6, 3, 2};
    int plain = worth * tenths[sort] / 10 + drawn;
    int sought = sort == 0 ? worth * 9 / 10 : plain;
    int small = sort == 1 ? worth : plain;
    int p = switch (kind) {
      case 0 -> plain;
      case 1 -> sought;
      case 2 -> plain - 1;
      case 3 -> small;
      case 4 -> sought * (10 - a) / 10;
      default -> small < a ? small : a;
    };
    return p < 0 ? 0 : p;
  }

  /** What is altered of a morning: nothing, at first. */
  static final class If {
    int rain = 7;
    Thing capped = null;
    int cap = 0;
    int place = -1;
    Thing offered = null;
    int v = 0;
    Thing absent = null;
  }

  static final class Day {
    List<Thing> bought = new ArrayList<>();
    List<Boolean> came = new ArrayList<>();
    List<List<Thing>> on = new ArrayList<>();
    int[] takenIn = new int[7];
    int taken = 0, left = 0, home = 0, gain = 0;
  }

  static Day day(World w, If f) {
    Day d = new Day();
    List<Thing> gone = new ArrayList<>();
    if (f.absent != null) gone.add(f.absent);
    for (int i = 0; i < w.buyers.size(); i++) {
      Buyer b = w.buyers.get(i);
      List<Thing> on = lie(w, b.hour(), gone);
      d.on.add(on);
      boolean comes = b.sort() != 2 || w.friend == 1 || i > 0 && d.bought.get(i - 1) != null;
      if (b.hour() >= f.rain) comes = false;
      d.came.add(comes);
      Thing got = null;
      int paid = 0;
      if (comes && f.place == i) {
        got = f.offered;
        paid = f.v;
      } else if (comes) {
        int drawn = 0;
        for (Thing t : on) if (t.kind == 2) drawn++;
        int most = 0;
        for (Thing t : on) {
          int p = price(w, t, b.hour());
          int would = pay(b.sort(), t.kind, t.worth, t.a, drawn);
          if (t == f.capped && would > f.cap) would = f.cap;
          if (would < p || b.purse() < p) continue;
          if (got == null || would - p > most) {
            got = t;
            most = would - p;
            paid = p;
          }
        }
      }
      d.bought.add(got);
      if (got != null) {
        gone.add(got);
        d.taken += paid;
        d.takenIn[b.hour()] += paid;
      }
    }
    for (int t = 0; t < w.things.size(); t++) {
      if (gone.contains(w.things.get(t))) continue;
      d.left += 1 << t;
      d.home += w.tip * w.things.get(t).room;
    }
    d.gain = d.taken - d.home;
    return d;
  }

  static int gain(World w) { return day(w, new If()).gain; }

  static int bestMark(World w, Thing t, If f) {
    int was = t.mark, best = -1, most = 0;
    for (int m = 0; m < 100; m++) {
      t.mark = m;
      int g = day(w, f).gain;
      if (best < 0 || g > most) { best = m; most = g; }
    }
    t.mark = was;
    return best;
  }

  static final class Model {
    World w = new World();
    World kept = null;
    Object[] shelves = new Object[8];
    StringBuilder tape = new StringBuilder();
    int[] refused = new int[7];

    void bad(boolean it) { if (it) throw new Refusal(-2); }
    void stuck(boolean it) { if (it) throw new Refusal(-5); }
    void full(boolean it) { if (it) throw new Refusal(-6); }
    static boolean out(long v, long least, long most) { return v < least || v > most; }
    Thing thing(int t) { bad(out(t, 0, w.things.size() - 1)); return w.things.get(t); }
    Buyer buyer(int p) { bad(out(p, 0, w.buyers.size() - 1)); return w.buyers.get(p); }

    Row row(int s) {
      bad(out(s, 0, 7));
      if (shelves[s] instanceof Thing) throw new Refusal(-3);
      if (shelves[s] == null) throw new Refusal(-4);
      return (Row) shelves[s];
    }

    static boolean under(int kind, int above) {
      return switch (above) {
        case 0 -> true;
        case 1 -> kind == 1 || kind == 4;
        case 3 -> kind == 3 || kind == 5;
        default -> kind == above;
      };
    }

    int[] told(int s) {
      Row r = row(s);
      bad(r.v.length < w.things.size());
      int[] marks = new int[w.things.size()];
      for (int i = 0; i < marks.length; i++) {
        stuck(out(r.v[i], 0, 99));
        marks[i] = (int) r.v[i];
      }
      return marks;
    }

    Day offered(int place, Thing t, int v) {
      Day d = day(w, new If());
      stuck(!d.came.get(place) || !d.on.get(place).contains(t));
      If f = new If();
      f.place = place; f.offered = t; f.v = v;
      return day(w, f);
    }

    int worthy(Thing t) {
      If f = new If();
      f.absent = t;
      int without = day(w, f).gain;
      return gain(w) - without;
    }

    int bestOf(int least, int most, java.util.function.IntConsumer put) {
      int best = least, greatest = Integer.MIN_VALUE;
      for (int v = least; v <= most; v++) {
        put.accept(v);
        int g = gain(w);
        if (g > greatest) { greatest = g; best = v; }
      }
      return best;
    }

    World marked() {
      World x = w.copy();
      for (int round = 0; round < 9; round++) {
        boolean same = true;
        for (Thing t : x.things) {
          int m = bestMark(x, t, new If());
          if (m != t.mark) same = false;
          t.mark = m;
        }
        if (same) break;
      }
      return x;
    }

    int sale() {
      String all = tape.toString();
      tape.setLength(0);
      World x = w.copy();
      List<Thing> before = x.things;
      List<String> tokens = new ArrayList<>();
      List<Integer> places = new ArrayList<>();
      Matcher m = Pattern.compile(" *(?:([a-z]+|[0-9]+|;|[^ ]))", Pattern.DOTALL).matcher(all);
      while (m.lookingAt()) {
        tokens.add(m.group(1));
        places.add(m.start(1));
        m.region(m.end(), all.length());
      }
      tokens.add("");
      places.add(all.length());
      int[] at = {0};
      int count = 0;
      try {
        while (true) {
          statement(x, tokens, places, at);
          count++;
          String t = tokens.get(at[0]);
          if (t.isEmpty()) break;
          if (!t.equals(";")) throw new Fault(places.get(at[0]));
          at[0]++;
        }
      } catch (Fault f) {
        refused[2]++;
        return -20 - f.place;
      }
      // things that were there stay the same ones, for the shelves
      for (int i = 0; i < w.things.size(); i++) {
        w.things.get(i).mark = before.get(i).mark;
        w.things.get(i).from = before.get(i).from;
        before.set(i, w.things.get(i));
      }
      w = x;
      return count;
    }

    static int number(List<String> tokens, List<Integer> places, int[] at, int least, int most) {
      String t = tokens.get(at[0]);
      if (!t.matches("[0-9]{1,2}") || out(Integer.parseInt(t), least, most)) throw new Fault(places.get(at[0]));
      at[0]++;
      return Integer.parseInt(t);
    }

    static void statement(World x, List<String> tokens, List<Integer> places, int[] at) {
      String word = tokens.get(at[0]);
      int place = places.get(at[0]);
      at[0]++;
      switch (word) {
        case "thing" -> {
          if (x.things.size() == 8) throw new Fault(place);
          Thing t = new Thing();
          t.kind = number(tokens, places, at, 0, 5);
          t.worth = number(tokens, places, at, 1, 99);
          t.room = number(tokens, places, at, 1, 9);
          t.own = number(tokens, places, at, 0, 99);
          if (tokens.get(at[0]).equals("with")) {
            at[0]++;
            t.a = number(tokens, places, at, 0, 9);
          }
          t.mark = t.worth;
          x.things.add(t);
        }
        case "buyer" -> {
          if (x.buyers.size() == 24) throw new Fault(place);
          int h = number(tokens, places, at, 0, 6);
          int s = number(tokens, places, at, 0, 3);
          x.join(new Buyer(h, s, number(tokens, places, at, 1, 99)));
        }
        case "mark" -> {
          int i = number(tokens, places, at, 0, x.things.size() - 1);
          x.things.get(i).mark = number(tokens, places, at, 0, 99);
        }
        case "from" -> {
          int i = number(tokens, places, at, 0, x.things.size() - 1);
          x.things.get(i).from = number(tokens, places, at, 0, 7);
        }
        case "feet" -> x.feet = number(tokens, places, at, 1, 30);
        case "fall" -> x.fall = number(tokens, places, at, 0, 14);
        case "friend" -> x.friend = number(tokens, places, at, 0, 1);
        case "tip" -> x.tip = number(tokens, places, at, 0, 9);
        default -> throw new Fault(place);
      }
    }

    long answer(String name, long[] g) {
      int a = g.length > 0 ? (int) g[0] : 0, b = g.length > 1 ? (int) g[1] : 0, c = g.length > 2 ? (int) g[2] : 0;
      int d = g.length > 3 ? (int) g[3] : 0, e = g.length > 4 ? (int) g[4] : 0;
      try {
        return switch (name) {
          case "row", "set", "copy", "element", "holds", "show", "says" -> shelf(name, g, a, b, c, d, e);
          case "thing", "buyer", "buyers", "change", "ask", "feed", "wipe", "sale", "swap", "marks", "morning",
              "draw", "clear", "seed", "image", "back" -> change(name, a, b, c, d, e);
          case "thingOf", "buyerOf", "price", "on", "pays", "buys", "comes", "who", "taken", "left", "home", "gain",
              "sum", "status", "hour" -> look(name, a, b, c);
          default -> think(name, a, b, c);
        };
      } catch (Refusal r) {
        refused[-r.code]++;
        boolean far = List.of("marked", "rain", "neighbour", "worthy", "ahead", "told").contains(name);
        return far ? -1000000 + r.code : r.code;
      }
    }

    long shelf(String name, long[] g, int a, int b, int c, int d, int e) {
      switch (name) {
        case "row" -> {
          bad(out(a, 0, 7) || out(b, 0, 4) || out(c, 0, 40));
          Row r = new Row();
          r.sort = b;
          r.v = new long[c];
          shelves[a] = r;
          return 1;
        }
        case "set" -> {
          Row r = row(a);
          bad(out(b, 0, r.v.length - 1));
          long v = g[2];
          r.v[b] = switch (r.sort) {
            case 0 -> v << 56 >> 56;
            case 1 -> v << 48 >> 48;
            case 2 -> v << 32 >> 32;
            case 3 -> v;
            default -> v == 0 ? 0 : 1;
          };
          return 1;
        }
        case "copy" -> {
          bad(out(a, 0, 7) || out(b, 0, 7));
          Object p = shelves[a], q = shelves[b];
          boolean other = p instanceof Thing || q instanceof Thing
              || p instanceof Row x && q instanceof Row y && x.sort != y.sort;
          if (other) throw new Refusal(-3);
          if (p == null || q == null) throw new Refusal(-4);
          long[] from = ((Row) p).v, to = ((Row) q).v;
          bad(c < 0 || d < 0 || e < 0 || (long) c + e > from.length || (long) d + e > to.length);
          long[] was = from.clone();
          for (int i = 0; i < e; i++) to[d + i] = was[c + i];
          return e;
        }
        case "element" -> {
          if (out(a, 0, 7) || !(shelves[a] instanceof Row r) || out(b, 0, r.v.length - 1)) return 0;
          return r.v[b];
        }
        case "holds" -> {
          if (out(a, 0, 7) || shelves[a] == null) return -1;
          return shelves[a] instanceof Row r ? r.sort : 10 + w.things.indexOf(shelves[a]);
        }
        case "show" -> {
          bad(out(a, 0, 7));
          shelves[a] = b == -1 ? null : thing(b);
          return 1;
        }
        default -> {
          bad(out(a, 0, 7) || out(b, 0, 5));
          if (shelves[a] == null) throw new Refusal(-4);
          if (!(shelves[a] instanceof Thing t) || !under(t.kind, b)) throw new Refusal(-3);
          return switch (b) {
            case 0 -> t.worth;
            case 1, 4 -> pay(0, t.kind, t.worth, t.a, 0);
            case 2 -> 1;
            default -> pay(1, t.kind, t.worth, t.a, 0);
          };
        }
      }
    }

    long change(String name, int a, int b, int c, int d, int e) {
      switch (name) {
        case "thing" -> {
          bad(out(a, 0, 5) || out(b, 1, 99) || out(c, 1, 9) || out(d, 0, 99) || out(e, 0, 9));
          full(w.things.size() == 8);
          Thing t = new Thing();
          t.kind = a; t.worth = b; t.room = c; t.own = d; t.a = e; t.mark = b; t.from = 0;
          w.things.add(t);
          return w.things.size() - 1;
        }
        case "buyer" -> {
          bad(out(a, 0, 6) || out(b, 0, 3) || out(c, 1, 99));
          full(w.buyers.size() == 24);
          return w.join(new Buyer(a, b, c));
        }
        case "buyers" -> {
          bad(out(a, 0, 7) || out(b, 3, 39) || b % 3 != 0);
          long[] v = row(a).v;
          bad(v.length < b);
          for (int i = 0; i < b; i += 3) bad(out(v[i], 0, 6) || out(v[i + 1], 0, 3) || out(v[i + 2], 1, 99));
          full(w.buyers.size() + b / 3 > 24);
          for (int i = 0; i < b; i += 3) w.join(new Buyer((int) v[i], (int) v[i + 1], (int) v[i + 2]));
          return w.buyers.size();
        }
        case "change" -> {
          Thing t = thing(a);
          bad(out(b, 0, 3));
          bad(out(c, b == 0 ? 1 : 0, b == 3 ? 7 : 99));
          int was;
          switch (b) {
            case 0 -> { was = t.worth; t.worth = c; }
            case 1 -> { was = t.own; t.own = c; }
            case 2 -> { was = t.mark; t.mark = c; }
            default -> { was = t.from; t.from = c; }
          }
          return was;
        }
        case "ask" -> {
          bad(out(a, 0, 3));
          int was;
          switch (a) {
            case 0 -> { bad(out(b, 1, 30)); was = w.feet; w.feet = b; }
            case 1 -> { bad(out(b, 0, 14)); was = w.fall; w.fall = b; }
            case 2 -> { bad(out(b, 0, 1)); was = w.friend; w.friend = b; }
            default -> { bad(out(b, 0, 9)); was = w.tip; w.tip = b; }
          }
          return was;
        }
        case "feed" -> {
          bad(out(a, 0, 255));
          full(tape.length() == 250);
          tape.append((char) a);
          return tape.length();
        }
        case "wipe" -> {
          int was = tape.length();
          tape.setLength(0);
          return was;
        }
        case "sale" -> { return sale(); }
        case "swap" -> {
          Thing t = thing(a), o = thing(b);
          w.things.set(a, o);
          w.things.set(b, t);
          return a == b ? 0 : 1;
        }
        case "marks" -> {
          int[] marks = told(a);
          for (int i = 0; i < marks.length; i++) w.things.get(i).mark = marks[i];
          return marks.length;
        }
        case "morning" -> {
          Day m = day(w, new If());
          for (Thing t : m.bought) {
            if (t == null) continue;
            w.things.remove(t);
            for (int s = 0; s < 8; s++) if (shelves[s] == t) shelves[s] = null;
          }
          w.buyers.clear();
          w.coin += m.gain;
          w.mornings++;
          return m.gain;
        }
        case "draw" -> {
          bad(out(a, 1, 24));
          int n = 0;
          for (; n < a && w.buyers.size() < 24; n++) {
            int h = w.draw(7), s = w.draw(4);
            w.join(new Buyer(h, s, w.draw(60) + 1));
          }
          return n;
        }
        case "clear" -> {
          int was = w.buyers.size();
          w.buyers.clear();
          return was;
        }
        case "seed" -> {
          int was = w.seed;
          w.seed = a;
          return was;
        }
        case "image" -> {
          kept = w.copy();
          return 1;
        }
        default -> {
          stuck(kept == null);
          w = kept.copy();
          for (int s = 0; s < 8; s++) if (shelves[s] instanceof Thing) shelves[s] = null;
          return 1;
        }
      }
    }

    long look(String name, int a, int b, int c) {
      switch (name) {
        case "thingOf" -> {
          Thing t = thing(a);
          bad(out(b, 0, 6));
          return new int[] {t.kind, t.worth, t.room, t.own, t.a, t.mark, t.from}[b];
        }
        case "buyerOf" -> {
          Buyer x = buyer(a);
          bad(out(b, 0, 2));
          return new int[] {x.hour(), x.sort(), x.purse()}[b];
        }
        case "price" -> { Thing t = thing(a); bad(out(b, 0, 6)); return price(w, t, b); }
        case "on" -> {
          bad(out(a, 0, 6));
          int bits = 0;
          for (Thing t : lie(w, a, List.of())) bits += 1 << w.things.indexOf(t);
          return bits;
        }
        case "pays" -> {
          bad(out(a, 0, 3));
          Thing t = thing(b);
          bad(out(c, 0, 8));
          return pay(a, t.kind, t.worth, t.a, c);
        }
        case "buys" -> { buyer(a); return w.things.indexOf(day(w, new If()).bought.get(a)); }
        case "comes" -> { buyer(a); return day(w, new If()).came.get(a) ? 1 : 0; }
        case "who" -> { Thing t = thing(a); return day(w, new If()).bought.indexOf(t); }
        case "taken" -> { return day(w, new If()).taken; }
        case "left" -> { return day(w, new If()).left; }
        case "home" -> { return day(w, new If()).home; }
        case "gain" -> { return gain(w); }
        case "sum" -> {
          bad(out(a, 0, 1));
          return a == 0 ? w.things.stream().mapToInt(t -> t.worth).sum() : w.buyers.stream().mapToInt(Buyer::purse).sum();
        }
        case "hour" -> {
          int[] in = day(w, new If()).takenIn;
          int most = java.util.Arrays.stream(in).max().getAsInt();
          for (int h = 0; h < 7; h++) if (in[h] == most) return h;
          return -99;
        }
        default -> {
          int holding = 0;
          for (Object s : shelves) if (s != null) holding++;
          int[] all = {w.things.size(), w.buyers.size(), w.feet, w.fall, w.friend, w.tip, w.coin, w.mornings,
              tape.length(), w.seed, holding, -1, refused[2], refused[3], refused[4], refused[5], refused[6]};
          return out(a, 0, 16) ? -1 : all[a];
        }
      }
    }

    long think(String name, int a, int b, int c) {
      switch (name) {
        case "bestMark" -> { return bestMark(w, thing(a), new If()); }
        case "bestFall" -> {
          int was = w.fall, best = bestOf(0, 14, v -> w.fall = v);
          w.fall = was;
          return best;
        }
        case "bestFrom" -> {
          Thing t = thing(a);
          int was = t.from, best = bestOf(0, 7, v -> t.from = v);
          t.from = was;
          return best;
        }
        case "table" -> {
          World real = w;
          w = real.copy();
          int n = w.things.size();
          int best = bestOf(0, (1 << n) - 1, v -> {
            for (int i = 0; i < n; i++) w.things.get(i).from = (v & 1 << i) == 0 ? 7 : 0;
          });
          w = real;
          return best;
        }
        case "feet" -> {
          int was = w.feet, best = bestOf(1, 30, v -> w.feet = v);
          w.feet = was;
          return best;
        }
        case "marked" -> {
          if (a != -1) thing(a);
          World x = marked();
          return a == -1 ? gain(x) : x.things.get(a).mark;
        }
        case "offer" -> {
          buyer(a);
          Thing t = thing(b);
          bad(out(c, 0, 99));
          return offered(a, t, c).gain > gain(w) ? 1 : 0;
        }
        case "least" -> {
          buyer(a);
          Thing t = thing(b);
          for (int v = 0; v < 100; v++) if (offered(a, t, v).gain > gain(w)) return v;
          return -1;
        }
        case "rain" -> {
          bad(out(a, 0, 6));
          If f = new If();
          f.rain = a;
          return gain(w) - day(w, f).gain;
        }
        case "neighbour" -> {
          If f = new If();
          f.capped = thing(a);
          f.cap = b;
          bad(out(b, 0, 99) || out(c, 0, 1));
          return c == 0 ? gain(w) - day(w, f).gain : bestMark(w, f.capped, f);
        }
        case "quick" -> {
          bad(out(a, 0, 5) || out(b, 0, 9) || out(c, 0, 99));
          for (int worth = 1; worth < 100; worth++) if (pay(0, a, worth, b, a == 2 ? 1 : 0) >= c) return worth;
          return -1;
        }
        case "worthy" -> { return worthy(thing(a)); }
        case "ahead" -> {
          Thing t = thing(a);
          int was = gain(w);
          w.things.remove(a);
          w.things.add(0, t);
          int now = gain(w);
          w.things.remove(0);
          w.things.add(a, t);
          return now - was;
        }
        case "dearest" -> {
          stuck(w.things.isEmpty());
          int best = 0;
          for (int i = 1; i < w.things.size(); i++)
            if (worthy(w.things.get(i)) > worthy(w.things.get(best))) best = i;
          return best;
        }
        case "judge" -> {
          Row r = row(a);
          bad(r.v.length < w.things.size());
          for (int i = 0; i < w.things.size(); i++) if (out(r.v[i], 0, 99)) return i;
          return -1;
        }
        case "told" -> {
          int[] marks = told(a);
          World x = w.copy();
          for (int i = 0; i < marks.length; i++) x.things.get(i).mark = marks[i];
          return gain(x);
        }
        default -> throw new IllegalStateException(name);
      }
    }
  }

  // ---- the class itself ----

  static long real(BootSale x, String name, long[] g) {
    int a = g.length > 0 ? (int) g[0] : 0, b = g.length > 1 ? (int) g[1] : 0, c = g.length > 2 ? (int) g[2] : 0;
    int d = g.length > 3 ? (int) g[3] : 0, e = g.length > 4 ? (int) g[4] : 0;
    return switch (name) {
      case "row" -> x.row(a, b, c);
      case "set" -> x.set(a, b, g[2]);
      case "copy" -> x.copy(a, b, c, d, e);
      case "element" -> x.element(a, b);
      case "holds" -> x.holds(a);
      case "show" -> x.show(a, b);
      case "says" -> x.says(a, b);
      case "thing" -> x.thing(a, b, c, d, e);
      case "buyer" -> x.buyer(a, b, c);
      case "buyers" -> x.buyers(a, b);
      case "change" -> x.change(a, b, c);
      case "ask" -> x.ask(a, b);
      case "feed" -> x.feed(a);
      case "wipe" -> x.wipe();
      case "sale" -> x.sale();
      case "thingOf" -> x.thingOf(a, b);
      case "buyerOf" -> x.buyerOf(a, b);
      case "price" -> x.price(a, b);
      case "on" -> x.on(a);
      case "pays" -> x.pays(a, b, c);
      case "buys" -> x.buys(a);
      case "comes" -> x.comes(a);
      case "who" -> x.who(a);
      case "taken" -> x.taken();
      case "left" -> x.left();
      case "home" -> x.home();
      case "gain" -> x.gain();
      case "bestMark" -> x.bestMark(a);
      case "bestFall" -> x.bestFall();
      case "bestFrom" -> x.bestFrom(a);
      case "table" -> x.table();
      case "feet" -> x.feet();
      case "marked" -> x.marked(a);
      case "offer" -> x.offer(a, b, c);
      case "least" -> x.least(a, b);
      case "rain" -> x.rain(a);
      case "neighbour" -> x.neighbour(a, b, c);
      case "quick" -> x.quick(a, b, c);
      case "worthy" -> x.worthy(a);
      case "swap" -> x.swap(a, b);
      case "ahead" -> x.ahead(a);
      case "dearest" -> x.dearest();
      case "hour" -> x.hour();
      case "judge" -> x.judge(a);
      case "told" -> x.told(a);
      case "marks" -> x.marks(a);
      case "morning" -> x.morning();
      case "draw" -> x.draw(a);
      case "sum" -> x.sum(a);
      case "clear" -> x.clear();
      case "seed" -> x.seed(a);
      case "image" -> x.image();
      case "back" -> x.back();
      case "status" -> x.status(a);
      default -> throw new IllegalStateException(name);
    };
  }

  // ---- the runs ----

  /** A call and the ranges of its numbers, least and most of each; 't' a thing, 'p' a place, 's' a shelf, 'L' a long. */
  private static final String[] FACE = {
      "row s 0-4 0-40", "set s 0-12 L", "copy s s 0-6 0-6 0-8", "element s 0-12", "holds s", "show s t", "says s 0-5",
      "thing 0-5 1-99 1-5 0-30 0-9", "buyer 0-6 0-3 1-99", "buyers s 3-12", "change t 0-3 0-50", "ask 0-3 0-12",
      "wipe", "sale", "thingOf t 0-6", "buyerOf p 0-2", "price t 0-6", "on 0-6", "pays 0-3 t 0-8", "buys p", "comes p",
      "who t", "taken", "left", "home", "gain", "bestMark t", "bestFall", "bestFrom t", "table", "feet", "marked t",
      "offer p t 0-99", "least p t", "rain 0-6", "neighbour t 0-60 0-1", "quick 0-5 0-9 0-99", "worthy t", "swap t t",
      "ahead t", "dearest", "hour", "judge s", "told s", "marks s", "morning", "draw 1-8", "sum 0-1", "clear", "seed L",
      "image", "back", "status 0-16"};
  /** Calls that cost much or take much away come seldom. */
  private static final List<String> SELDOM = List.of("marked", "table", "neighbour", "least", "bestMark", "morning", "clear", "back", "wipe");

  private static void goThrough(int run) {
    Random random = new Random(run * 7919L + 13);
    BootSale x = new BootSale();
    Model m = new Model();
    List<String> log = new ArrayList<>();
    int calls = 0;
    // some runs begin with a stall, so that much can happen
    int things = run % 3 == 0 ? 0 : 1 + random.nextInt(8);
    int most = new int[] {99, 40, 20}[random.nextInt(3)];
    for (int i = 0; i < things; i++, calls++) {
      check(x, m, log, "thing", random.nextInt(6), 1 + random.nextInt(most), 1 + random.nextInt(4), random.nextInt(1 + most / 3), random.nextInt(10));
    }
    for (int i = things == 0 ? 24 : random.nextInt(24); i < 24; i++, calls++) {
      check(x, m, log, "buyer", random.nextInt(7), random.nextInt(4), 1 + random.nextInt(99));
    }
    while (calls < CALLS && wrong == 0) {
      if (random.nextInt(12) == 0) {
        calls += rowRun(random, x, m, log);
      } else if (random.nextInt(25) == 0) {
        calls += tapeRun(random, x, m, log);
      } else {
        String[] form = FACE[random.nextInt(FACE.length)].split(" ");
        if (SELDOM.contains(form[0]) && random.nextInt(4) != 0) continue;
        long[] g = new long[form.length - 1];
        for (int i = 0; i < g.length; i++) g[i] = argument(random, form[i + 1], m);
        check(x, m, log, form[0], g);
        calls++;
      }
    }
  }

  /** A stall whose marks would go on to change till the fourteenth round: MARKED ends with the ninth. */
  private static void ninthRound() {
    int[][] things = {{0, 74, 4, 6, 0, 45, 4}, {2, 60, 4, 16, 1, 57, 0}, {5, 74, 4, 18, 6, 82, 4}, {1, 16, 1, 8, 4, 84, 1},
        {2, 69, 3, 18, 0, 81, 0}, {2, 45, 3, 17, 6, 47, 0}, {1, 66, 1, 4, 9, 23, 0}, {2, 58, 2, 4, 2, 77, 0}};
    int[] buyers = {0, 3, 3, 6, 2, 92, 5, 3, 33, 0, 3, 65, 6, 1, 84, 5, 0, 60, 2, 1, 60, 2, 2, 1, 2, 3, 69, 1, 3, 57, 2, 2, 5,
        4, 1, 26, 4, 0, 38, 4, 3, 43, 6, 1, 23, 3, 1, 93, 0, 2, 37, 6, 2, 54, 1, 1, 41, 1, 3, 29, 2, 0, 49, 2, 3, 40,
        2, 2, 75, 3, 3, 63};
    BootSale x = new BootSale();
    Model m = new Model();
    List<String> log = new ArrayList<>();
    for (int i = 0; i < things.length; i++) {
      int[] t = things[i];
      check(x, m, log, "thing", t[0], t[1], t[2], t[3], t[4]);
      check(x, m, log, "change", i, 2, t[5]);
      check(x, m, log, "change", i, 3, t[6]);
    }
    for (int i = 0; i < buyers.length; i += 3) check(x, m, log, "buyer", buyers[i], buyers[i + 1], buyers[i + 2]);
    check(x, m, log, "ask", 0, 26);
    check(x, m, log, "ask", 1, 7);
    for (int thing = -1; thing < things.length; thing++) check(x, m, log, "marked", thing);
  }

  private static final long[] WILD = {-1, -2, -1000, Integer.MIN_VALUE, Integer.MAX_VALUE, 7, 8, 24, 25, 31, 32, 40, 41, 99, 100, 256};

  private static long argument(Random random, String form, Model m) {
    if (form.equals("L")) {
      return switch (random.nextInt(4)) {
        case 0 -> random.nextInt(100);
        case 1 -> random.nextInt(200) - 50;
        case 2 -> random.nextInt();
        default -> random.nextLong();
      };
    }
    if (random.nextInt(40) == 0) return WILD[random.nextInt(WILD.length)];
    switch (form) {
      case "s": return random.nextInt(8);
      case "t": return m.w.things.isEmpty() || random.nextInt(20) == 0 ? random.nextInt(10) - 1 : random.nextInt(m.w.things.size());
      case "p": return m.w.buyers.isEmpty() || random.nextInt(20) == 0 ? random.nextInt(26) - 1 : random.nextInt(m.w.buyers.size());
      default:
        int cut = form.indexOf('-');
        int least = Integer.parseInt(form.substring(0, cut));
        int most = Integer.parseInt(form.substring(cut + 1));
        return least + random.nextInt(most - least + 1);
    }
  }

  /** A row of marks or of buyers, mostly good, and what takes it. */
  private static int rowRun(Random random, BootSale x, Model m, List<String> log) {
    int s = random.nextInt(8);
    boolean ofMarks = random.nextBoolean();
    int n = ofMarks ? m.w.things.size() + random.nextInt(3) - (random.nextInt(8) == 0 ? 1 : 0) : 3 * (1 + random.nextInt(4));
    int calls = 0;
    check(x, m, log, "row", s, random.nextInt(12) == 0 ? 4 : random.nextInt(4), n);
    calls++;
    for (int i = 0; i < n; i++) {
      long v = ofMarks ? random.nextInt(60) : i % 3 == 0 ? random.nextInt(7) : i % 3 == 1 ? random.nextInt(4) : 1 + random.nextInt(99);
      if (random.nextInt(60) == 0) v = random.nextInt(300) - 100;
      if (random.nextInt(90) == 0) v = random.nextLong();
      check(x, m, log, "set", s, i, v);
      calls++;
    }
    String[] users = ofMarks ? new String[] {"judge", "told", "marks"} : new String[] {"buyers"};
    for (String user : users) {
      if (user.equals("buyers")) check(x, m, log, user, s, n); else check(x, m, log, user, s);
      calls++;
    }
    return calls;
  }

  /** A sale of some statements, perhaps spoilt, fed and read. */
  private static int tapeRun(Random random, BootSale x, Model m, List<String> log) {
    StringBuilder text = new StringBuilder();
    int statements = 1 + random.nextInt(5);
    for (int i = 0; i < statements; i++) {
      if (i > 0) text.append(blank(random)).append(";").append(blank(random));
      int thing = random.nextInt(Math.max(1, m.w.things.size() + 1));
      String t = switch (random.nextInt(8)) {
        case 0 -> "thing " + random.nextInt(6) + " " + (1 + random.nextInt(99)) + " " + (1 + random.nextInt(9)) + " " + random.nextInt(40)
            + (random.nextBoolean() ? " with " + random.nextInt(10) : "");
        case 1 -> "buyer " + random.nextInt(7) + " " + random.nextInt(4) + " " + (1 + random.nextInt(99));
        case 2 -> "mark " + thing + " " + random.nextInt(100);
        case 3 -> "from " + thing + " " + random.nextInt(8);
        case 4 -> "feet " + (1 + random.nextInt(30));
        case 5 -> "fall " + random.nextInt(15);
        case 6 -> "friend " + random.nextInt(2);
        default -> "tip " + random.nextInt(10);
      };
      text.append(t);
    }
    if (random.nextInt(3) == 0) text.append(blank(random));
    for (int spoil = random.nextInt(5); spoil > 2 && text.length() > 0; spoil--) {
      int at = random.nextInt(text.length());
      switch (random.nextInt(5)) {
        case 0 -> text.deleteCharAt(at);
        case 1 -> text.insert(at, (char) ('0' + random.nextInt(10)));
        case 2 -> text.insert(at, "; awith \u00e9".charAt(random.nextInt(9)));
        case 3 -> text.setCharAt(at, (char) random.nextInt(256));
        default -> text.setLength(at);
      }
    }
    for (int i = 0; i < text.length(); i++) check(x, m, log, "feed", text.charAt(i));
    check(x, m, log, "sale");
    return text.length() / 8 + 1;
  }

  private static String blank(Random random) {
    return " ".repeat(random.nextInt(3));
  }

  private static void check(BootSale x, Model m, List<String> log, String name, long... g) {
    StringBuilder call = new StringBuilder(name);
    for (long v : g) call.append(' ').append(v);
    log.add(call.toString());
    long want = m.answer(name, g);
    long got = real(x, name, g);
    if (got == want) return;
    wrong++;
    if (wrong > 1) return;
    for (String line : log) System.out.println("  " + line);
    System.out.println("^ the last call answered " + got + ", due is " + want);
  }
}

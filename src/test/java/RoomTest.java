import com.sun.management.ThreadMXBean;
import java.lang.management.ManagementFactory;
import java.util.Random;

/** After an object is made its calls make nothing more: what stands in one room is what the constructors made. */
public final class RoomTest {
  /** Room for what the machine itself may make now and then. */
  private static final long SPARE = 20_000;

  public static void main(String[] args) {
    ThreadMXBean room = (ThreadMXBean) ManagementFactory.getThreadMXBean();
    // the first one loads classes, too
    BootSale x = new BootSale();
    long before = room.getCurrentThreadAllocatedBytes();
    x = new BootSale();
    long made = room.getCurrentThreadAllocatedBytes() - before;
    Random random = new Random(5);
    callAll(x, random);
    before = room.getCurrentThreadAllocatedBytes();
    for (int i = 0; i < 512; i++) callAll(x, random);
    long more = room.getCurrentThreadAllocatedBytes() - before;
    System.out.println("an object takes " + made + " bytes, its calls " + more);
    if (made > 40_000 || more > SPARE) System.exit(1);
  }

  private static void callAll(BootSale x, Random r) {
    int t = r.nextInt(8), p = r.nextInt(24), s = r.nextInt(8);
    x.thing(r.nextInt(6), 1 + r.nextInt(99), 1 + r.nextInt(4), r.nextInt(30), r.nextInt(10));
    x.buyer(r.nextInt(7), r.nextInt(4), 1 + r.nextInt(99));
    x.row(s, r.nextInt(5), r.nextInt(41));
    x.set(s, t, r.nextLong());
    x.copy(s, r.nextInt(8), 0, 1, 3);
    x.element(s, t);
    x.holds(s);
    x.judge(s);
    x.told(s);
    x.marks(s);
    x.buyers(s, 3);
    x.show(s, t);
    x.says(s, r.nextInt(6));
    x.change(t, 2, r.nextInt(60));
    x.ask(r.nextInt(4), r.nextInt(10));
    x.wipe();
    String text = "thing 1 9 1 1 with 5;buyer 3 1 60;mark 0 9;friend 1";
    for (int i = 0; i < text.length(); i++) x.feed(text.charAt(i));
    x.sale();
    x.thingOf(t, 0);
    x.buyerOf(p, 0);
    x.price(t, 3);
    x.on(2);
    x.pays(1, t, 2);
    x.buys(p);
    x.comes(p);
    x.who(t);
    x.taken();
    x.left();
    x.home();
    x.gain();
    x.bestMark(t);
    x.bestFall();
    x.bestFrom(t);
    x.table();
    x.feet();
    x.marked(t);
    x.offer(p, t, 9);
    x.least(p, t);
    x.rain(3);
    x.neighbour(t, 20, 1);
    x.quick(4, 3, 20);
    x.worthy(t);
    x.swap(t, 0);
    x.ahead(t);
    x.dearest();
    x.hour();
    x.draw(3);
    x.sum(0);
    x.image();
    if (r.nextInt(4) == 0) x.morning();
    if (r.nextInt(4) == 0) x.back();
    if (r.nextInt(4) == 0) x.clear();
    x.seed(r.nextInt());
    x.status(r.nextInt(17));
  }
}

import java.lang.reflect.InvocationTargetException;
import java.lang.reflect.Method;
import java.lang.reflect.Modifier;
import java.util.ArrayList;
import java.util.Arrays;
import java.util.Comparator;
import java.util.List;
import java.util.Random;

/** No call throws, whatever its numbers are and whatever went ahead: all calls of the face by fixed seeds. */
public final class WildTest {
  private static final int RUNS = 300;
  private static final int CALLS = 512;
  private static final long[] WILD = {-1, -2, -3, 7, 8, 9, 24, 25, 39, 40, 41, 99, 100, 250, 251, 255, 256, 1 << 16, -1 << 16,
      Integer.MAX_VALUE, Integer.MAX_VALUE - 1, Integer.MIN_VALUE, Integer.MIN_VALUE + 1, 1L << 32, Long.MAX_VALUE, Long.MIN_VALUE};
  /** They begin anew, or search for long; seldom, so that much stands in most runs. */
  private static final List<String> SELDOM = List.of("clear", "morning", "back", "wipe", "sale", "marked", "table");

  private WildTest() { }

  public static void main(String[] args) throws IllegalAccessException {
    List<Method> face = new ArrayList<>();
    for (Method m : BootSale.class.getDeclaredMethods()) if (Modifier.isPublic(m.getModifiers())) face.add(m);
    // the machine tells them in any order
    face.sort(Comparator.comparing(Method::getName));
    int refused = 0;
    for (int run = 0; run < RUNS; run++) refused += goThrough(face, new Random(run), run % 5);
    System.out.println(RUNS * CALLS + " calls, none throws, " + refused + " are BAD");
    if (face.size() != 54 || refused < RUNS) System.exit(1);
  }

  private static int goThrough(List<Method> face, Random random, int wildness) throws IllegalAccessException {
    BootSale x = new BootSale();
    if (wildness > 0) fill(x, random);
    for (int call = 0; call < CALLS; call++) {
      Method m = face.get(random.nextInt(face.size()));
      while (SELDOM.contains(m.getName()) && random.nextInt(8) != 0) m = face.get(random.nextInt(face.size()));
      Object[] numbers = new Object[m.getParameterCount()];
      for (int i = 0; i < numbers.length; i++) {
        long v = random.nextInt(4) < wildness ? random.nextInt(10) : WILD[random.nextInt(WILD.length)];
        if (m.getParameterTypes()[i] == int.class) numbers[i] = (int) v;
        else numbers[i] = v;
      }
      try {
        m.invoke(x, numbers);
      } catch (InvocationTargetException e) {
        System.out.println(m.getName() + Arrays.toString(numbers) + " throws " + e.getCause());
        System.exit(1);
      }
    }
    return x.status(12);
  }

  private static void fill(BootSale x, Random random) {
    int things = random.nextInt(9);
    for (int i = 0; i < things; i++) x.thing(random.nextInt(6), 1 + random.nextInt(99), 1 + random.nextInt(9), random.nextInt(40), random.nextInt(10));
    x.draw(1 + random.nextInt(24));
    String words = "thing buyer mark from feet fall friend tip with ; 0 1 2 9 99 x";
    String[] tokens = words.split(" ");
    while (random.nextInt(20) != 0) {
      for (char c : tokens[random.nextInt(tokens.length)].toCharArray()) x.feed(c);
      x.feed(' ');
    }
  }
}

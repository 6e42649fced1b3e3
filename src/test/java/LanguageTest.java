import java.io.IOException;
import java.lang.reflect.Constructor;
import java.lang.reflect.Field;
import java.lang.reflect.Method;
import java.lang.reflect.Modifier;
import java.nio.file.Files;
import java.nio.file.Path;
import java.util.ArrayList;
import java.util.Arrays;
import java.util.List;
import java.util.Map;
import java.util.Set;
import java.util.TreeMap;
import java.util.TreeSet;
import java.util.regex.Matcher;
import java.util.regex.Pattern;
import java.util.stream.Collectors;

/** What of ../shared/LANGUAGE.md can be seen from the text and the face of the class. Run from the project's root. */
public final class LanguageTest {
  private static final String FACE = "row(int,int,int)int set(int,int,long)int copy(int,int,int,int,int)int element(int,int)long "
      + "holds(int)int show(int,int)int says(int,int)int thing(int,int,int,int,int)int buyer(int,int,int)int buyers(int,int)int "
      + "change(int,int,int)int ask(int,int)int feed(int)int wipe()int sale()int thingOf(int,int)int buyerOf(int,int)int "
      + "price(int,int)int on(int)int pays(int,int,int)int buys(int)int comes(int)int who(int)int taken()int left()int home()int "
      + "gain()int bestMark(int)int bestFall()int bestFrom(int)int table()int feet()int marked(int)int offer(int,int,int)int "
      + "least(int,int)int rain(int)int neighbour(int,int,int)int quick(int,int,int)int worthy(int)int swap(int,int)int "
      + "ahead(int)int dearest()int hour()int judge(int)int told(int)int marks(int)int morning()int draw(int)int sum(int)int "
      + "clear()int seed(int)int image()int back()int status(int)int";
  private static int wrong;

  private static void holds(String rule, boolean it) {
    if (it) return;
    wrong++;
    System.out.println("rule " + rule + " is broken");
  }

  public static void main(String[] args) throws IOException {
    face();
    text(Files.readString(Path.of("src/main/java/BootSale.java")));
    System.out.println(wrong == 0 ? "the language is kept" : wrong + " rules are broken");
    if (wrong != 0) System.exit(1);
  }

  private static void face() {
    Class<?> c = BootSale.class;
    holds("1: public and final", Modifier.isPublic(c.getModifiers()) && Modifier.isFinal(c.getModifiers()));
    Set<String> is = new TreeSet<>();
    Set<String> hidden = new TreeSet<>();
    for (Method m : c.getDeclaredMethods()) {
      if (m.isSynthetic()) continue;
      if (Modifier.isPrivate(m.getModifiers())) {
        hidden.add(m.getName());
        continue;
      }
      String types = Arrays.stream(m.getParameterTypes()).map(Class::getName).collect(Collectors.joining(","));
      is.add(m.getName() + "(" + types + ")" + m.getReturnType());
    }
    holds("1: the face " + is, is.equals(new TreeSet<>(List.of(FACE.split(" ")))));
    for (String member : is) holds("1: a private " + member, !hidden.contains(member.substring(0, member.indexOf('('))));
    for (Field f : c.getDeclaredFields()) {
      holds("1: field " + f.getName(), f.getName().equals("NONE") || f.isSynthetic() || Modifier.isPrivate(f.getModifiers()));
      holds("5: " + f.getName(), !Modifier.isStatic(f.getModifiers()) || Modifier.isFinal(f.getModifiers()));
    }
    Constructor<?>[] made = c.getDeclaredConstructors();
    holds("1: one constructor", made.length == 1 && made[0].getParameterCount() == 0);
    holds("11: classes", c.getDeclaredClasses().length < 12);
    long own = Arrays.stream(c.getDeclaredFields()).filter(f -> !Modifier.isStatic(f.getModifiers())).count();
    holds("11: fields", own <= 20);
    for (Class<?> inside : c.getDeclaredClasses()) {
      holds("2: static " + inside, Modifier.isStatic(inside.getModifiers()) && !Modifier.isPublic(inside.getModifiers()));
      holds("11: fields of " + inside, inside.getDeclaredFields().length <= 20);
      for (Method m : inside.getDeclaredMethods()) {
        boolean faced = Arrays.stream(c.getDeclaredMethods())
            .anyMatch(p -> Modifier.isPublic(p.getModifiers()) && p.getName().equals(m.getName()));
        holds("1: " + inside + " " + m.getName(), !faced);
      }
    }
  }

  private static void text(String source) {
    holds("3: ASCII", source.chars().allMatch(ch -> ch < 128));
    String code = source.replaceAll("(?s)/\\*.*?\\*/", "").replaceAll("//[^\n]*", "");
    String words = "throw throws try catch finally synchronized assert import package yield record enum instanceof var "
        + "Object float double Exception Error Thread Random System.nanoTime System.currentTimeMillis";
    for (String word : words.split(" ")) {
      holds("2, 4, 6, 13: " + word, !Pattern.compile("\\b" + Pattern.quote(word) + "\\b").matcher(code).find());
    }
    for (String sign : List.of("->", "::", "@", "<>", "\" +", "+ \"")) holds("2, 10: " + sign, !code.contains(sign));
    Matcher library = Pattern.compile("\\b(Math|Integer|Long|System|Arrays|String)\\.(\\w+)").matcher(code);
    // functions alone: a constant as Integer.MIN_VALUE is not among what rule 4 lists
    List<String> allowed = List.of("Math.max", "Math.min", "Integer.bitCount", "System.arraycopy");
    while (library.find()) holds("4: " + library.group(), allowed.contains(library.group()));
    Map<String, Set<String>> calls = methods(code.split("\n"));
    calls(code, calls);
  }

  /** Only methods of the file and what rule 4 lists is called; no recursion, and no more than eight calls stand open. */
  private static void calls(String code, Map<String, Set<String>> calls) {
    List<String> others = List.of("max", "min", "bitCount", "arraycopy", "charAt", "length", "for", "if", "while", "switch", "return");
    Matcher m = Pattern.compile("(new )?\\b(\\w+)\\(").matcher(code);
    while (m.find()) {
      boolean own = m.group(1) != null || m.group(2).equals("BootSale") || calls.containsKey(m.group(2));
      holds("4: calls " + m.group(2), own || others.contains(m.group(2)));
    }
    for (String name : calls.keySet()) {
      int deep = depth(name, calls, List.of());
      holds("8: " + name + " comes to itself", deep < 1000);
      holds("11: " + name + " goes " + deep + " deep", deep <= 8);
    }
  }

  /** How many calls stand open at most while this one does; 1000 and more, if one comes to itself. */
  private static int depth(String name, Map<String, Set<String>> calls, List<String> open) {
    if (open.contains(name)) return 1000;
    List<String> now = new ArrayList<>(open);
    now.add(name);
    int deepest = 0;
    for (String called : calls.get(name)) deepest = Math.max(deepest, depth(called, calls, now));
    return deepest + 1;
  }

  /** Which methods of the file each one calls. */
  private static Map<String, Set<String>> methods(String[] lines) {
    Pattern head = Pattern.compile("^(  |    )((public|private|static|final) )*[\\w\\[\\]]+ (\\w+)\\(([^)]*)\\) \\{$");
    Map<String, StringBuilder> bodies = new TreeMap<>();
    String name = "";
    int start = -1;
    String indent = "";
    for (int i = 0; i < lines.length; i++) {
      Matcher m = head.matcher(lines[i]);
      if (m.matches()) {
        start = i;
        indent = m.group(1);
        name = m.group(4);
        holds("11: parameters: " + lines[i], m.group(5).split(",").length <= 7);
        // of one name are taken for one, which can only tell more calls than there are
        bodies.putIfAbsent(name, new StringBuilder());
      } else if (start >= 0) {
        bodies.get(name).append(lines[i]).append('\n');
      }
      if (start >= 0 && lines[i].equals(indent + "}")) {
        holds("11: length: " + lines[start], i - start <= 60);
        start = -1;
      }
    }
    Map<String, Set<String>> calls = new TreeMap<>();
    for (Map.Entry<String, StringBuilder> body : bodies.entrySet()) {
      Set<String> called = new TreeSet<>();
      Matcher m = Pattern.compile("\\b(\\w+)\\(").matcher(body.getValue());
      while (m.find()) if (bodies.containsKey(m.group(1))) called.add(m.group(1));
      calls.put(body.getKey(), called);
    }
    return calls;
  }
}

import java.io.IOException;
import java.lang.reflect.Method;
import java.net.URL;
import java.net.URLClassLoader;
import java.nio.file.Files;
import java.nio.file.Path;
import java.util.ArrayList;
import java.util.Comparator;
import java.util.List;
import java.util.regex.Matcher;
import java.util.regex.Pattern;
import java.util.stream.Stream;
import javax.tools.JavaCompiler;
import javax.tools.ToolProvider;

/**
 * The calls that README.md shows, as they stand there, one after the other on one object: each must answer the
 * number behind it. Run from the project's root.
 */
public final class ReadmeTest {
  private static final Pattern ANSWERED = Pattern.compile("(?:int (\\w+) = )?(sale\\.(\\w+)\\(.*\\)); +// (-?\\d+)(?:: .+)?");
  private static final Pattern PLAIN = Pattern.compile("BootSale sale = new BootSale\\(\\);|String text = \".*\";|for \\(.*\\) sale\\.feed\\(.*\\);");
  private static int wrong;
  private static int answers;

  private ReadmeTest() { }

  /** Called by what is made of README.md. */
  public static void due(String line, long got, long want) {
    answers++;
    if (got != want) complain(line + " -- answered " + got);
  }

  private static void complain(String what) {
    wrong++;
    System.out.println("README.md: " + what);
  }

  public static void main(String[] args) throws Exception {
    List<String> shown = shown();
    if (wrong == 0) run(source(shown));
    if (wrong == 0 && answers < 20) complain("only " + answers + " answers are shown");
    System.out.println(wrong == 0 ? "README.md shows " + answers + " answers as they are" : wrong + " lines are wrong");
    if (wrong != 0) System.exit(1);
  }

  private static List<String> shown() throws IOException {
    List<String> shown = new ArrayList<>();
    boolean java = false;
    for (String line : Files.readAllLines(Path.of("README.md"))) {
      if (line.startsWith("```")) {
        java = line.equals("```java");
      } else if (java) {
        shown.add(line);
      }
    }
    return shown;
  }

  private static String source(List<String> shown) {
    StringBuilder source = new StringBuilder("public final class Shown {\n  public static void run() {\n");
    for (String line : shown) {
      Matcher answered = ANSWERED.matcher(line);
      if (answered.matches()) {
        String call = answered.group(2);
        if (answered.group(1) != null) {
          source.append("int ").append(answered.group(1)).append(" = ").append(call).append(";\n");
          call = answered.group(1);
        }
        String quoted = line.replace("\\", "\\\\").replace("\"", "\\\"");
        source.append("ReadmeTest.due(\"").append(quoted).append("\", ").append(call).append(", ").append(answered.group(4)).append(");\n");
      } else if (PLAIN.matcher(line).matches()) {
        source.append(line).append("\n");
      } else {
        complain("shows no answer: " + line);
      }
    }
    return source.append("  }\n}\n").toString();
  }

  private static void run(String source) throws Exception {
    Path place = Files.createTempDirectory("readme");
    try {
      Path file = place.resolve("Shown.java");
      Files.writeString(file, source);
      JavaCompiler javac = ToolProvider.getSystemJavaCompiler();
      String path = System.getProperty("java.class.path");
      if (javac.run(null, null, null, "-cp", path, "-d", place.toString(), file.toString()) != 0) {
        complain("doesn't compile");
        return;
      }
      try (URLClassLoader loader = new URLClassLoader(new URL[] {place.toUri().toURL()}, ReadmeTest.class.getClassLoader())) {
        Method run = loader.loadClass("Shown").getMethod("run");
        run.invoke(null);
      }
    } finally {
      try (Stream<Path> files = Files.walk(place)) {
        for (Path file : files.sorted(Comparator.reverseOrder()).toList()) Files.delete(file);
      }
    }
  }
}

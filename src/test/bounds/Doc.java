import java.io.IOException;
import java.io.UncheckedIOException;
import java.nio.file.Files;
import java.nio.file.Path;
import java.util.ArrayList;
import java.util.LinkedHashMap;
import java.util.List;
import java.util.Map;
import java.util.regex.Matcher;
import java.util.regex.Pattern;

/** The document by parts, and which words of each a test says it holds: in the end none may be left. */
final class Doc {
  private static final Pattern TERMS = Pattern.compile("==== (\\d)\\. [A-Z ]+(.*)");
  private static final Pattern PROMISE = Pattern.compile("## (Promise \\d+): .*");
  private static final Map<String, StringBuilder> texts = new LinkedHashMap<>();
  private static final Map<String, List<String>> lines = new LinkedHashMap<>();
  private static final Map<String, boolean[]> held = new LinkedHashMap<>();

  private Doc() { }

  /** Run from the project's root. */
  static void read() {
    String part = "";
    try {
      for (String line : Files.readAllLines(Path.of("../shared/DOC.md"))) {
        Matcher terms = TERMS.matcher(line);
        Matcher promise = PROMISE.matcher(line);
        if (terms.matches()) {
          part = "Terms " + terms.group(1);
          add(part, terms.group(2));
        } else if (promise.matches()) {
          part = promise.group(1);
        } else if (line.startsWith("## ")) {
          // of "Not promised" nothing is due
          part = line.equals("## What it is") || line.equals("## The public face") ? line.substring(3) : "";
        } else if (line.startsWith("REFUSALS (")) {
          part = "REFUSALS";
          add(part, line);
        } else if (!line.startsWith("```")) {
          // a promise's line begins with the call itself
          add(part, line.startsWith("`") ? line.substring(line.indexOf("`: ") + 3) : line);
        }
      }
    } catch (IOException e) {
      throw new UncheckedIOException(e);
    }
    texts.remove("");
    texts.forEach((name, text) -> held.put(name, new boolean[text.length()]));
  }

  private static void add(String part, String line) {
    String words = line.trim().replaceAll("\\s+", " ");
    if (!words.isEmpty()) lines.computeIfAbsent(part, p -> new ArrayList<>()).add(words);
    StringBuilder text = texts.computeIfAbsent(part, p -> new StringBuilder());
    if (!words.isEmpty()) text.append(text.length() == 0 ? "" : " ").append(words);
  }

  /** Whether the sentence stands in this part; it is held then. */
  static boolean hold(String part, String sentence) {
    StringBuilder text = texts.get(part);
    int at = text == null ? -1 : text.indexOf(sentence);
    if (at < 0) return false;
    for (int i = at; i < at + sentence.length(); i++) held.get(part)[i] = true;
    return true;
  }

  /** The lines of a part, each by itself. */
  static List<String> lines(String part) {
    return lines.getOrDefault(part, List.of());
  }

  /** How many parts have words that no test holds; they are printed. */
  static int unheld() {
    int parts = 0;
    for (Map.Entry<String, StringBuilder> part : texts.entrySet()) {
      StringBuilder rest = new StringBuilder();
      boolean[] is = held.get(part.getKey());
      for (int i = 0; i < is.length; i++) rest.append(is[i] ? '_' : part.getValue().charAt(i));
      if (!Pattern.compile("[A-Za-z0-9]").matcher(rest).find()) continue;
      parts++;
      System.out.println(part.getKey() + ": no test holds: " + rest.toString().replaceAll("_+", " .. "));
    }
    return parts;
  }

  static int parts() {
    return texts.size();
  }
}

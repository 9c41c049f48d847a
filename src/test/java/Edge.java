import java.io.IOException;
import java.nio.file.Files;
import java.nio.file.Path;
import java.util.LinkedHashMap;
import java.util.Map;
import java.util.function.ToIntFunction;
import java.util.regex.Matcher;
import java.util.regex.Pattern;

/**
 * Tests of sentences that name a boundary. A test begins with "says" and the sentence itself, and all that is asked
 * from there on belongs to it. At the end the document is read: each sentence must stand in its chapter, and each
 * number, NONE, false and "at most" of the chapters must stand in a sentence that has a test.
 */
abstract class Edge {
  protected static final int MIN = Integer.MIN_VALUE;
  protected static final int MAX = Integer.MAX_VALUE;

  private static final Due due = new Due("BoundaryTest");
  private static final Map<String, Map<String, Integer>> asked = new LinkedHashMap<>();
  private static final Pattern NAMED = Pattern.compile("\\d+|\\bNONE\\b|\\bfalse\\b|\\bat most\\b|\\bREFUSED\\b");
  private static String chapter = "";
  private static String sentence = "";

  /** The chapter that the next sentences stand in, by the beginning of its name. */
  protected static void in(String name) {
    chapter = name;
  }

  protected static void says(String text) {
    sentence = text;
    asked.computeIfAbsent(chapter, key -> new LinkedHashMap<>()).putIfAbsent(text, 0);
  }

  protected static void is(String call, long got, long want) {
    asked.get(chapter).merge(sentence, 1, Integer::sum);
    due.is(chapter + ", \"" + sentence + "\": " + call, got, want);
  }

  protected static void is(String call, boolean got, boolean want) {
    is(call, got ? 1 : 0, want ? 1 : 0);
  }

  /** BOTTLES 0, 1, .. of these KINDS. */
  protected static AfraidInk told(int... kinds) {
    AfraidInk x = new AfraidInk();
    for (int b = 0; b < kinds.length; b++) {
      x.bottle(b, kinds[b]);
    }
    return x;
  }

  /** A tape of so many times twenty bytes, the text first. */
  protected static void tape(AfraidInk x, int twenties, String text) {
    int[] bytes = new int[20 * twenties];
    for (int i = 0; i < text.length(); i++) {
      bytes[i] = text.charAt(i);
    }
    Due.feed(x, bytes);
  }

  /** Of all 256 signs behind the beginning of a text just these can stand there. */
  protected static void canStand(ToIntFunction<String> read, String begin, String signs) {
    canStand(read, begin, signs, "", 1);
  }

  /** The same, where some signs have a FAULT of their own. */
  protected static void canStand(ToIntFunction<String> read, String begin, String signs, String faulty, int fault) {
    int place = begin.length();
    for (char sign = 0; sign < 256; sign++) {
      int got = read.applyAsInt(begin + sign);
      String call = begin + " and sign " + (int) sign;
      if (signs.indexOf(sign) >= 0) {
        is(call + " answers " + got + ": it can stand there", got > 0 || got == -1000 - place - 1, true);
      } else {
        is(call, got, -1000 * (faulty.indexOf(sign) >= 0 ? fault : 1) - place);
      }
    }
  }

  /** A text of which no beginning is a text: the end of each can't stand there. */
  protected static void endTooEarly(ToIntFunction<String> read, String text) {
    for (int n = 1; n < text.length(); n++) {
      is("the end behind " + text.substring(0, n), read.applyAsInt(text.substring(0, n)), -1000 - n);
    }
    is("at last " + text, read.applyAsInt(text) > 0, true);
  }

  protected static void end(Path document) throws IOException {
    Map<String, String> chapters = chaptersOf(Files.readString(document));
    for (Map.Entry<String, Map<String, Integer>> one : asked.entrySet()) {
      due.is("there is one chapter " + one.getKey(), chapters.containsKey(one.getKey()), true);
      for (Map.Entry<String, Integer> test : one.getValue().entrySet()) {
        String text = chapters.getOrDefault(one.getKey(), "");
        due.is(one.getKey() + " says: " + test.getKey(), text.contains(test.getKey()), true);
        due.is(one.getKey() + ": asked of: " + test.getKey(), test.getValue() > 0, true);
      }
    }
    chapters.forEach(Edge::isAllTested);
    due.end();
  }

  private static Map<String, String> chaptersOf(String document) {
    Map<String, String> chapters = new LinkedHashMap<>();
    for (String part : document.split("\n## ")) {
      String name = part.substring(0, part.indexOf('\n'));
      if (name.equals("What it is") || name.equals("Terms") || name.startsWith("Promise ")) {
        String text = part.substring(name.length()).replaceAll("```(text)?|`[^`\n]*\\)`:", " ")
            .replaceAll("==== \\d\\.", " ").replaceAll("\\s+", " ");
        chapters.put(name.replaceAll(":.*", ""), text);
      }
    }
    return chapters;
  }

  private static void isAllTested(String name, String text) {
    boolean[] tested = new boolean[text.length()];
    for (String one : asked.getOrDefault(name, Map.of()).keySet()) {
      for (int at = text.indexOf(one); at >= 0; at = text.indexOf(one, at + 1)) {
        java.util.Arrays.fill(tested, at, at + one.length(), true);
      }
    }
    Matcher named = NAMED.matcher(text);
    while (named.find()) {
      String around = text.substring(Math.max(0, named.start() - 30), Math.min(text.length(), named.end() + 30));
      due.is(name + " has a test of: .." + around + "..", tested[named.start()], true);
    }
  }
}

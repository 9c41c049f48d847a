import java.math.BigInteger;
import java.util.ArrayDeque;
import java.util.ArrayList;
import java.util.Arrays;
import java.util.Deque;
import java.util.List;

/**
 * The document once more, in another way than the class: texts are walked sign by sign with a stack, THE LAW is
 * reckoned from its text each time, plans are found by trying all. Slow, and free to use the library.
 */
final class Model {
  static final class Bottle implements Cloneable {
    int kind;
    int salt;
    int ink = 999;
    int[] dread = new int[16];
    int[] tries = new int[16];

    Bottle copy() {
      Bottle other = new Bottle();
      other.kind = kind;
      other.salt = salt;
      other.ink = ink;
      other.dread = dread.clone();
      other.tries = tries.clone();
      return other;
    }
  }

  static final class State {
    Bottle[] bottles = new Bottle[8];
    int nerve = 20;
    int pictures;
    int written;
    int day;
    int x = 1;

    State copy() {
      State other = new State();
      for (int b = 0; b < 8; b++) {
        other.bottles[b] = bottles[b] == null ? null : bottles[b].copy();
      }
      other.nerve = nerve;
      other.pictures = pictures;
      other.written = written;
      other.day = day;
      other.x = x;
      return other;
    }
  }

  /** A division by 0. */
  static final class Refused extends RuntimeException {
    private static final long serialVersionUID = 1;
  }

  State now = new State();
  State kept;
  final int[] rhyme = new int[16];
  final List<Integer> tape = new ArrayList<>();
  List<Integer> letter = new ArrayList<>();
  List<String> law = new ArrayList<>();

  Model() {
    for (int w = 0; w < 16; w++) {
      rhyme[w] = w;
    }
  }

  // ---- state

  boolean told(int b) {
    return b >= 0 && b < 8 && now.bottles[b] != null;
  }

  int told() {
    int bits = 0;
    for (int b = 0; b < 8; b++) {
      bits += told(b) ? 1 << b : 0;
    }
    return bits;
  }

  static boolean in(int v, int least, int most) {
    return least <= v && v <= most;
  }

  int shrinking(Bottle b, int w, int salt) {
    double mean = (b.dread[w] + b.dread[rhyme[w]]) / 2.0;
    int[] byKind = {b.dread[w], 2 * b.dread[w], (int) Math.floor(b.dread[w] / 2.0), 0, (int) Math.ceil(mean)};
    int less = byKind[b.kind] - salt;
    return less < 0 ? 0 : less > 99 ? 99 : less;
  }

  int shrinking(Bottle b, int w) {
    return shrinking(b, w, b.salt);
  }

  boolean bears(State s, Bottle b, int w) {
    return shrinking(b, w) <= s.nerve;
  }

  int bearsBits(Bottle b) {
    int bits = 0;
    for (int w = 0; w < 16; w++) {
      bits += bears(now, b, w) ? 1 << w : 0;
    }
    return bits;
  }

  boolean bottle(int b, int kind) {
    if (!in(b, 0, 7) || !in(kind, 0, 4)) {
      return false;
    }
    now.bottles[b] = new Bottle();
    now.bottles[b].kind = kind;
    return true;
  }

  boolean ink(int b, int words) {
    if (!told(b) || !in(words, 0, 999)) {
      return false;
    }
    now.bottles[b].ink = words;
    return true;
  }

  boolean nerve(int v) {
    if (in(v, 0, 99)) {
      now.nerve = v;
    }
    return in(v, 0, 99);
  }

  static int follow(int x) {
    return (int) ((25173L * x + 13849) % 65536);
  }

  int pressed(int b, int seed) {
    if (!told(b) || !in(seed, 0, 65535)) {
      return -1;
    }
    int kind = now.bottles[b].kind;
    bottle(b, kind);
    int own = seed;
    for (int w = 0; w < 16; w++) {
      int first = follow(own);
      int second = follow(first);
      now.bottles[b].dread[w] = first % 10 * 10 + second % 10;
      own = second;
    }
    return Arrays.stream(now.bottles[b].dread).sum();
  }

  int feed(int... ints) {
    if (tape.size() + 20 > 260) {
      return -1;
    }
    for (int bits : ints) {
      for (byte one : BigInteger.valueOf(bits & 0xFFFFFFFFL | 1L << 32).toByteArray()) {
        tape.add(one & 255);
      }
      tape.remove(tape.size() - 5);
    }
    return tape.size();
  }

  private String take(int n) {
    StringBuilder text = new StringBuilder();
    for (int i = 0; i < n; i++) {
      text.append((char) (int) tape.get(i));
    }
    tape.clear();
    return text.toString();
  }

  private boolean lacks(int n, int least, int most) {
    return !in(n, least, most) || tape.size() < n;
  }

  // ---- THE LAW, walked sign by sign

  /** The greatest depth that is taken, and where the walk is: the states are what may come next. */
  private static int walkLaw(String text) {
    Deque<Character> open = new ArrayDeque<>();
    String state = "rule";
    int rules = 0;
    int digits = 0;
    boolean ahead = false;
    boolean right = false;
    Deque<Boolean> sides = new ArrayDeque<>();
    for (int i = 0; i < text.length(); i++) {
      char c = text.charAt(i);
      boolean digit = c >= '0' && c <= '9';
      if (state.equals("number") && digit) {
        if (++digits > 5) {
          return -2000 - i;
        }
        continue;
      }
      if (state.equals("number")) {
        state = "behind factor";
      }
      switch (state) {
        case "rule":
          if ("fex".indexOf(c) < 0) {
            return -1000 - i;
          }
          if (++rules > 16) {
            return -4000 - i;
          }
          ahead = c != 'x';
          state = ahead ? "factor" : "(";
          break;
        case "(":
          if (c != '(') {
            return -1000 - i;
          }
          open.push(c);
          ahead = false;
          right = false;
          state = "test";
          break;
        case "test":
        case "factor":
          boolean opens = c == '[' || state.equals("test") && (c == '(' || c == '!');
          if (opens) {
            if (open.size() == 6) {
              return -5000 - i;
            }
            open.push(c);
            if (c == '[') {
              state = "factor";
            }
          } else if (digit) {
            digits = 1;
            state = "number";
          } else if ("bkwvnsqidu".indexOf(c) >= 0) {
            state = "behind factor";
          } else {
            return -1000 - i;
          }
          break;
        case "behind factor":
          boolean bracket = !open.isEmpty() && open.peek() == '[';
          if ("+-*/%".indexOf(c) >= 0) {
            state = "factor";
          } else if (bracket) {
            if (c != ']') {
              return -1000 - i;
            }
            open.pop();
          } else if (ahead) {
            if (c != '(') {
              return -1000 - i;
            }
            state = "(";
            i--;
          } else if (!right) {
            if ("<>=".indexOf(c) < 0) {
              return -1000 - i;
            }
            right = true;
            state = "factor";
          } else {
            right = false;
            state = "behind test";
            i--;
          }
          break;
        case "behind test":
          while (!open.isEmpty() && open.peek() == '!') {
            open.pop();
          }
          if (c == '&' || c == '|') {
            state = "test";
          } else if (c == ')') {
            open.pop();
            state = open.isEmpty() ? "behind rule" : "behind test";
          } else {
            return -1000 - i;
          }
          break;
        default:
          if (c != ';') {
            return -1000 - i;
          }
          state = "rule";
          break;
      }
    }
    return state.equals("behind rule") ? rules : -1000 - text.length();
  }

  int law(int n) {
    if (lacks(n, 1, 240)) {
      return -1;
    }
    String text = take(n);
    int answer = walkLaw(text);
    if (answer > 0) {
      law = Arrays.asList(text.split(";"));
    }
    return answer;
  }

  /** Splits at signs that stand in no brackets. */
  private static List<String> split(String text, String at) {
    List<String> parts = new ArrayList<>();
    int depth = 0;
    int from = 0;
    for (int i = 0; i < text.length(); i++) {
      char c = text.charAt(i);
      depth += c == '(' || c == '[' ? 1 : c == ')' || c == ']' ? -1 : 0;
      if (depth == 0 && at.indexOf(c) >= 0) {
        parts.add(text.substring(from, i));
        parts.add("" + c);
        from = i + 1;
      }
    }
    parts.add(text.substring(from));
    return parts;
  }

  private static boolean holds(String c, int[] facts) {
    List<String> parts = split(c, "|");
    for (int k = 0; k < parts.size(); k += 2) {
      if (all(parts.get(k), facts)) {
        return true;
      }
    }
    return false;
  }

  private static boolean all(String part, int[] facts) {
    List<String> tests = split(part, "&");
    for (int k = 0; k < tests.size(); k += 2) {
      if (!test(tests.get(k), facts)) {
        return false;
      }
    }
    return true;
  }

  private static boolean test(String test, int[] facts) {
    if (test.charAt(0) == '!') {
      return !test(test.substring(1), facts);
    }
    if (test.charAt(0) == '(') {
      return holds(test.substring(1, test.length() - 1), facts);
    }
    List<String> sides = split(test, "<>=");
    int left = sum(sides.get(0), facts);
    int right = sum(sides.get(2), facts);
    String how = sides.get(1);
    return how.equals("<") ? left < right : how.equals(">") ? left > right : left == right;
  }

  private static int sum(String text, int[] facts) {
    List<String> terms = split(text, "+-");
    int value = term(terms.get(0), facts);
    for (int k = 2; k < terms.size(); k += 2) {
      int more = term(terms.get(k), facts);
      value = (int) (terms.get(k - 1).equals("+") ? (long) value + more : (long) value - more);
    }
    return value;
  }

  private static int term(String text, int[] facts) {
    List<String> factors = split(text, "*/%");
    int value = factor(factors.get(0), facts);
    for (int k = 2; k < factors.size(); k += 2) {
      int by = factor(factors.get(k), facts);
      String how = factors.get(k - 1);
      if (by == 0 && !how.equals("*")) {
        throw new Refused();
      }
      value = (int) (how.equals("*") ? (long) value * by : how.equals("/") ? (long) value / by : (long) value % by);
    }
    return value;
  }

  private static int factor(String text, int[] facts) {
    if (text.charAt(0) == '[') {
      return sum(text.substring(1, text.length() - 1), facts);
    }
    int fact = "bkwvnsqidu".indexOf(text.charAt(0));
    return fact >= 0 ? facts[fact] : Integer.parseInt(text);
  }

  private static boolean ruleHolds(String rule, int[] facts) {
    try {
      return holds(rule.substring(rule.indexOf('(') + 1, rule.length() - 1), facts);
    } catch (Refused refused) {
      return false;
    }
  }

  private int byRules(char kind, int[] facts, int without, int most) {
    for (String rule : law) {
      if (rule.charAt(0) == kind && ruleHolds(rule, facts)) {
        try {
          return Math.max(0, Math.min(most, sum(rule.substring(1, rule.indexOf('(')), facts)));
        } catch (Refused refused) {
          return 0;
        }
      }
    }
    return without;
  }

  // ---- GRIEF and LETTERS

  int grief(int b, int n) {
    if (!told(b) || lacks(n, 1, 120)) {
      return -1;
    }
    String text = take(n);
    String state = "line";
    int lines = 0;
    int digits = 0;
    for (int i = 0; i <= text.length(); i++) {
      char c = i < text.length() ? text.charAt(i) : ';';
      boolean end = i == text.length();
      boolean word = c >= 'a' && c <= 'p';
      boolean digit = c >= '0' && c <= '9';
      boolean stands;
      String then = "";
      switch (state) {
        case "line":
          stands = word || c == '!' || c == '#';
          if (stands && ++lines > 20) {
            return -4000 - i;
          }
          then = word ? "deed" : c == '!' ? "number" : "kind";
          digits = 0;
          break;
        case "deed":
          stands = "=+-~".indexOf(c) >= 0;
          then = c == '~' ? "word" : "number";
          break;
        case "number":
          if (digit && digits == 2) {
            return -2000 - i;
          }
          stands = digit || c == ';' && digits > 0;
          then = digit ? "number" : "line";
          digits++;
          break;
        case "word":
          stands = word;
          then = "end";
          break;
        case "kind":
          stands = c >= '0' && c <= '4';
          then = "end";
          break;
        default:
          stands = c == ';';
          then = "line";
          break;
      }
      if (!stands) {
        return -1000 - i;
      }
      state = end ? state : then;
    }
    for (String line : text.split(";")) {
      befall(now.bottles[b], line);
    }
    return lines;
  }

  private void befall(Bottle bottle, String line) {
    if (line.charAt(0) == '!') {
      bottle.salt = Integer.parseInt(line.substring(1));
    } else if (line.charAt(0) == '#') {
      bottle.kind = Integer.parseInt(line.substring(1));
    } else if (line.charAt(1) == '~') {
      int a = line.charAt(0) - 'a';
      int b = line.charAt(2) - 'a';
      for (int w = 0; w < 16; w++) {
        if (w == a || w == b || rhyme[w] == a || rhyme[w] == b) {
          rhyme[w] = w;
        }
      }
      rhyme[a] = b;
      rhyme[b] = a;
    } else {
      int w = line.charAt(0) - 'a';
      int by = Integer.parseInt(line.substring(2));
      int before = line.charAt(1) == '=' ? 0 : bottle.dread[w];
      bottle.dread[w] = Math.max(0, Math.min(99, line.charAt(1) == '-' ? before - by : before + by));
    }
  }

  int letter(int n) {
    if (lacks(n, 1, 60)) {
      return -1;
    }
    String text = take(n);
    List<Integer> words = new ArrayList<>();
    Deque<int[]> open = new ArrayDeque<>();
    boolean begun = false;
    int times = 0;
    int start = 0;
    for (int i = 0; i < text.length(); i++) {
      char c = text.charAt(i);
      if (times == 0) {
        start = i;
      }
      int from;
      if (c >= '2' && c <= '9' && times == 0) {
        times = c - '0';
        continue;
      } else if (c >= 'a' && c <= 'p') {
        from = words.size();
        words.add(c - 'a');
      } else if (c == '(') {
        if (open.size() == 2) {
          return -5000 - i;
        }
        open.push(new int[] {words.size(), times, start});
        times = 0;
        begun = false;
        continue;
      } else if (c == ')' && times == 0 && begun && !open.isEmpty()) {
        int[] group = open.pop();
        from = group[0];
        times = group[1];
        start = group[2];
      } else {
        return -1000 - i;
      }
      List<Integer> round = new ArrayList<>(words.subList(from, words.size()));
      for (int k = 1; k < times; k++) {
        words.addAll(round);
      }
      if (words.size() > 48) {
        return -6000 - start;
      }
      times = 0;
      begun = true;
    }
    if (times != 0 || !open.isEmpty() || !begun) {
      return -1000 - text.length();
    }
    letter = words;
    return words.size();
  }

  // ---- DAYS

  /** What came of DAYS: WRITTEN, PICTURES, USED. */
  private int[] write(State s, int n) {
    int[] sums = new int[3];
    for (int k = 0; k < n && s.day < 9999; k++) {
      for (int i = 0; i < letter.size(); i++) {
        s.x = follow(s.x);
        writeWord(s, i, letter.get(i), s.x % 10, sums);
      }
      s.day++;
    }
    return sums;
  }

  private void writeWord(State s, int i, int w, int draw, int[] sums) {
    int[] best = null;
    for (int b = 0; b < 8; b++) {
      Bottle one = s.bottles[b];
      if (one == null || one.ink == 0) {
        continue;
      }
      int q = shrinking(one, w);
      int[] facts = {b, one.kind, w, one.dread[w], one.tries[w], one.salt, q, i, s.day % 100, draw};
      boolean shut = false;
      for (String rule : law) {
        shut |= rule.charAt(0) == 'x' && ruleHolds(rule, facts);
      }
      int liked = byRules('e', facts, 1, 9999);
      int[] rank = {-liked, Math.min(99, q + byRules('f', facts, 0, 99)), b};
      if (!shut && liked > 0 && (best == null || Arrays.compare(rank, best) < 0)) {
        best = rank;
      }
    }
    boolean down = best != null && best[1] <= s.nerve;
    sums[down ? 0 : 1]++;
    s.written = Math.min(9999, s.written + (down ? 1 : 0));
    s.pictures = Math.min(9999, s.pictures + (down ? 0 : 1));
    if (best != null) {
      Bottle one = s.bottles[best[2]];
      one.ink--;
      one.tries[w]++;
      if (one.tries[w] == 9) {
        sums[2]++;
        use(one, w);
      }
    }
  }

  private void use(Bottle one, int w) {
    one.dread[w] = 0;
    one.tries[w] = 0;
    if (rhyme[w] != w) {
      one.dread[rhyme[w]] = Math.min(99, one.dread[rhyme[w]] + 9);
    }
  }

  int days(int n) {
    return in(n, 1, 60) ? write(now, n)[0] : -1;
  }

  int tried(int n, int what) {
    boolean ofBottle = what >= 100 && what < 300 && told(what % 100);
    if (!in(n, 1, 60) || !in(what, 0, 2) && !ofBottle) {
      return -1;
    }
    State s = now.copy();
    int[] sums = write(s, n);
    if (what < 3) {
      return sums[what];
    }
    Bottle one = s.bottles[what % 100];
    return what < 200 ? one.ink : Arrays.stream(one.dread).sum();
  }

  int used(int b, int w, int n) {
    if (!told(b) || !in(w, 0, 15) || !in(n, 1, 60)) {
      return -1;
    }
    State s = now.copy();
    for (int k = 0; k <= n; k++) {
      if (bears(s, s.bottles[b], w)) {
        return k;
      }
      write(s, 1);
    }
    return -2;
  }

  int bottleIs(int b, int what) {
    if (!told(b) || !in(what, 0, 4)) {
      return -1;
    }
    Bottle one = now.bottles[b];
    return new int[] {one.kind, one.salt, one.ink, bearsBits(one), Arrays.stream(one.dread).sum()}[what];
  }

  int fear(int b, int w, int what) {
    if (!told(b) || !in(w, 0, 15) || !in(what, 0, 2)) {
      return -1;
    }
    Bottle one = now.bottles[b];
    return new int[] {one.dread[w], one.tries[w], shrinking(one, w)}[what];
  }

  int rhyme(int w) {
    return in(w, 0, 15) ? rhyme[w] : -1;
  }

  // ---- plans

  private boolean bearsTold(int b, int w) {
    return told(b) && bears(now, now.bottles[b], w);
  }

  int changes(int what) {
    if (!in(what, 0, 47) && !in(what, 100, 101)) {
      return -1;
    }
    if (what < 48 && what >= letter.size()) {
      return -4;
    }
    List<Integer> places = new ArrayList<>();
    for (int i = 0; i < letter.size(); i++) {
      for (int b = 0; b < 8; b++) {
        if (bearsTold(b, letter.get(i))) {
          places.add(i);
          break;
        }
      }
    }
    if (what == 101) {
      return letter.size() - places.size();
    }
    // Of each BOTTLE that stands last, the best row so far with its changes ahead of it.
    List<int[]> rows = new ArrayList<>();
    rows.add(new int[] {0});
    for (int place : places) {
      int[][] best = new int[8][];
      for (int b = 0; b < 8; b++) {
        for (int[] row : rows) {
          if (bearsTold(b, letter.get(place))) {
            int[] longer = Arrays.copyOf(row, row.length + 1);
            longer[row.length] = b;
            longer[0] += row.length > 1 && row[row.length - 1] != b ? 1 : 0;
            best[b] = best[b] == null || Arrays.compare(longer, best[b]) < 0 ? longer : best[b];
          }
        }
      }
      rows.clear();
      for (int[] row : best) {
        if (row != null) {
          rows.add(row);
        }
      }
    }
    rows.sort(Arrays::compare);
    int[] row = rows.get(0);
    if (what == 100) {
      return row[0];
    }
    int at = places.indexOf(what);
    return at < 0 ? -2 : row[at + 1];
  }

  int leastSalt(int b) {
    if (!told(b)) {
      return -1;
    }
    Bottle one = now.bottles[b];
    for (int salt = one.salt; salt <= 99; salt++) {
      boolean all = true;
      for (int w : letter) {
        all &= shrinking(one, w, salt) <= now.nerve;
      }
      if (all) {
        return salt - one.salt;
      }
    }
    return 100;
  }

  int mixture(int a, int b, int what) {
    if (!told(a) || !told(b) || a == b || !in(what, 0, 1)) {
      return -1;
    }
    List<Integer> parts = new ArrayList<>();
    for (int i = 0; i <= 8; i++) {
      boolean all = true;
      for (int w : letter) {
        double mixed = i / 8.0 * shrinking(now.bottles[a], w) + (8 - i) / 8.0 * shrinking(now.bottles[b], w);
        all &= Math.floor(mixed) <= now.nerve;
      }
      if (all) {
        parts.add(i);
      }
    }
    return what == 1 ? parts.size() : parts.isEmpty() ? -2 : parts.get(0);
  }

  int whose(int n) {
    if (!in(n, 1, 12) || tape.size() < 2 * n) {
      return -1;
    }
    String bytes = take(2 * n);
    int bits = 0;
    for (int i = 0; i < n; i++) {
      if (bytes.charAt(2 * i) > 15 || bytes.charAt(2 * i + 1) > 1) {
        return -3;
      }
    }
    for (int b = 0; b < 8; b++) {
      boolean fits = told(b);
      for (int i = 0; i < n; i++) {
        fits = fits && bearsTold(b, bytes.charAt(2 * i)) == (bytes.charAt(2 * i + 1) == 1);
      }
      bits += fits ? 1 << b : 0;
    }
    return bits;
  }

  int next(int bottles, int what) {
    if (bottles <= 0 || (bottles | told()) != told() || !in(what, 0, 1)) {
      return -1;
    }
    int[] best = {99, 99};
    for (int w = 0; w < 16; w++) {
      int[] groups = new int[2];
      for (int b = 0; b < 8; b++) {
        if ((bottles >> b & 1) == 1) {
          groups[bearsTold(b, w) ? 1 : 0]++;
        }
      }
      int[] rank = {Math.max(groups[0], groups[1]), w};
      best = Arrays.compare(rank, best) < 0 ? rank : best;
    }
    return best[1 - what];
  }

  int guard(int what) {
    if (!in(what, 0, 1)) {
      return -1;
    }
    int[] best = {99, 0};
    for (int words = 0; words < 65536; words++) {
      int[] rank = {Integer.bitCount(words), words};
      if (Arrays.compare(rank, best) < 0 && parts(words)) {
        best = rank;
      }
    }
    return best[0] == 99 ? -2 : best[what];
  }

  private boolean parts(int words) {
    List<Integer> seen = new ArrayList<>();
    for (int b = 0; b < 8; b++) {
      if (told(b)) {
        int shown = bearsBits(now.bottles[b]) & words;
        if (seen.contains(shown)) {
          return false;
        }
        seen.add(shown);
      }
    }
    return true;
  }

  int training(int b, int n, int what) {
    if (!told(b) || !in(what, 0, 1) || lacks(n, 1, 6)) {
      return -1;
    }
    String bytes = take(n);
    for (int i = 0; i < n; i++) {
      if (bytes.charAt(i) > 15 || bytes.indexOf(bytes.charAt(i)) != i) {
        return -3;
      }
    }
    List<int[]> rows = new ArrayList<>();
    allRows(now.bottles[b].copy(), bytes, new int[] {0}, rows);
    if (rows.isEmpty()) {
      return -4;
    }
    rows.sort(Arrays::compare);
    int[] best = rows.get(0);
    return what == 0 ? best[0] : best.length == 1 ? -2 : best[1];
  }

  /** Every row of WORDS, its tries first. */
  private void allRows(Bottle one, String words, int[] row, List<int[]> rows) {
    boolean all = true;
    for (char w : words.toCharArray()) {
      all &= bears(now, one, w);
    }
    if (all) {
      rows.add(row);
    }
    for (char w : words.toCharArray()) {
      boolean there = false;
      for (int k = 1; k < row.length; k++) {
        there |= row[k] == w;
      }
      if (!there) {
        Bottle then = one.copy();
        int[] longer = Arrays.copyOf(row, row.length + 1);
        longer[row.length] = w;
        longer[0] += 9 - one.tries[w];
        use(then, w);
        allRows(then, words, longer, rows);
      }
    }
  }

  int borne(int what) {
    int[] counts = new int[3];
    for (int w = 0; w < 16; w++) {
      int bearing = 0;
      for (int b = 0; b < 8; b++) {
        bearing += bearsTold(b, w) ? 1 : 0;
      }
      counts[0] += bearing == Integer.bitCount(told()) ? 1 << w : 0;
      counts[1] += bearing == 0 ? 1 << w : 0;
      counts[2] += rhyme[w] > w ? 1 : 0;
    }
    return in(what, 0, 2) ? counts[what] : -1;
  }

  // ---- tables

  int treaty(int n, int m, int what) {
    if (!in(n, 1, 6) || !in(m, 1, 6) || !in(what, 0, 2) || tape.size() < 2 * n * m) {
      return -1;
    }
    String t = take(2 * n * m);
    List<Integer> rests = new ArrayList<>();
    int bargains = 0;
    for (int r = 0; r < n; r++) {
      for (int c = 0; c < m; c++) {
        char one = t.charAt(2 * (r * m + c));
        char other = t.charAt(2 * (r * m + c) + 1);
        boolean rest = true;
        boolean bargain = true;
        for (int k = 0; k < n; k++) {
          for (int l = 0; l < m; l++) {
            char oneThere = t.charAt(2 * (k * m + l));
            char otherThere = t.charAt(2 * (k * m + l) + 1);
            rest &= !(l == c && oneThere > one) && !(k == r && otherThere > other);
            bargain &= !(oneThere >= one && otherThere > other || oneThere > one && otherThere >= other);
          }
        }
        if (rest) {
          rests.add(r * 6 + c);
        }
        bargains += bargain ? 1 : 0;
      }
    }
    return what == 2 ? bargains : what == 0 ? rests.size() : rests.isEmpty() ? -2 : rests.get(0);
  }

  int forgery(int n, int what) {
    if (!in(what, 0, 3) || lacks(n, 1, 9)) {
      return -1;
    }
    BigInteger all = BigInteger.ONE;
    BigInteger none = BigInteger.ONE;
    for (char tenths : take(n).toCharArray()) {
      if (tenths > 10) {
        return -3;
      }
      all = all.multiply(BigInteger.valueOf(tenths));
      none = none.multiply(BigInteger.valueOf(10 - tenths));
    }
    BigInteger whole = BigInteger.TEN.pow(n);
    BigInteger above = what < 2 ? all : whole.subtract(none);
    return (what % 2 == 0 ? above : whole).divide(above.gcd(whole)).intValueExact();
  }

  int rings(int n, int what) {
    if (!in(what, 0, 1) || lacks(n, 1, 12)) {
      return -1;
    }
    String order = take(n);
    for (char w = 0; w < n; w++) {
      if (order.indexOf(w) < 0) {
        return -3;
      }
    }
    int rings = 0;
    for (int w = 0; w < n; w++) {
      int least = w;
      for (int at = order.charAt(w); at != w; at = order.charAt(at)) {
        least = Math.min(least, at);
      }
      rings += least == w ? 1 : 0;
    }
    int steps = 0;
    int[] at = new int[n];
    boolean home = false;
    Arrays.setAll(at, w -> w);
    while (!home) {
      steps++;
      home = true;
      for (int w = 0; w < n; w++) {
        at[w] = order.charAt(at[w]);
        home &= at[w] == w;
      }
    }
    return what == 0 ? rings : steps;
  }

  // ---- kept

  boolean seed(int x) {
    if (in(x, 0, 65535)) {
      now.x = x;
    }
    return in(x, 0, 65535);
  }

  int keep() {
    kept = now.copy();
    return now.day;
  }

  boolean undo() {
    if (kept == null) {
      return false;
    }
    now = kept.copy();
    return true;
  }

  int check(int n) {
    if (lacks(n, 0, 8)) {
      return -2;
    }
    String bytes = take(n);
    for (int b = 0; b < n; b++) {
      if (bytes.charAt(b) != (told(b) ? now.bottles[b].salt : 255)) {
        return b;
      }
    }
    return -1;
  }

  int count(int what) {
    int[] counts = {now.day, told(), now.nerve, now.pictures, now.written, law.size(), tape.size(), now.x, letter.size()};
    return in(what, 0, 8) ? counts[what] : -1;
  }
}

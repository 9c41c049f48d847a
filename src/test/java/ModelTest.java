import java.util.Random;

/** Long runs of drawn calls: the class and the Model must answer alike. The draws are always the same ones. */
public final class ModelTest {
  private static final Due due = new Due("ModelTest");
  private static Random draw;
  private static AfraidInk x;
  private static Model y;
  private static int wrong;

  public static void main(String[] args) {
    int runs = args.length > 1 ? Integer.parseInt(args[1]) : 400;
    texts(30 * runs);
    for (int run = 0; run < runs && wrong == 0; run++) {
      draw = new Random(run);
      x = new AfraidInk();
      y = new Model();
      StringBuilder told = new StringBuilder();
      if (run % 8 != 0) {
        scene();
      }
      for (int k = 0; k < 120 && wrong == 0; k++) {
        String call = call();
        told.append(call).append('\n');
        if (wrong != 0) {
          System.out.println("run " + run + ":\n" + told);
        }
      }
      state();
    }
    due.end();
  }

  /** Texts alone, for there are many ways to spoil one. */
  private static void texts(int howMany) {
    draw = new Random(-1);
    for (int k = 0; k < howMany && wrong == 0; k++) {
      if (k % 100 == 0) {
        x = new AfraidInk();
        y = new Model();
        x.bottle(0, 0);
        y.bottle(0, 0);
      }
      String law = cut(Texts.spoilt(draw, Texts.law(draw)), 240);
      feed(Due.bytesOf(law));
      alike("law " + law, x.law(law.length()), y.law(law.length()));
      String grief = cut(Texts.spoilt(draw, Texts.grief(draw)), 120);
      feed(Due.bytesOf(grief));
      alike("grief " + grief, x.grief(0, grief.length()), y.grief(0, grief.length()));
      String letter = cut(Texts.spoilt(draw, Texts.letter(draw)), 60);
      feed(Due.bytesOf(letter));
      alike("letter " + letter, x.letter(letter.length()), y.letter(letter.length()));
    }
  }

  private static String cut(String text, int most) {
    return text.length() > most ? text.substring(0, most) : text;
  }

  /** BOTTLES, a NERVE and a LETTER by which most questions have more than one answer. */
  private static void scene() {
    int bottles = 1 + up(8);
    for (int k = 0; k < bottles; k++) {
      int b = up(8);
      int kind = up(5);
      int seed = up(65536);
      x.bottle(b, kind);
      y.bottle(b, kind);
      if (up(3) > 0) {
        alike("pressed", x.pressed(b, seed), y.pressed(b, seed));
      }
      String text = Texts.grief(draw);
      feed(Due.bytesOf(text));
      alike("grief " + text, x.grief(b, text.length()), y.grief(b, text.length()));
    }
    int nerve = up(100);
    x.nerve(nerve);
    y.nerve(nerve);
    String text = Texts.letter(draw);
    feed(Due.bytesOf(text));
    alike("letter " + text, x.letter(text.length()), y.letter(text.length()));
    x.keep();
    y.keep();
  }

  /** Mostly a BOTTLE that is told. */
  private static int someBottle() {
    for (int k = 0; k < 20; k++) {
      int b = up(8);
      if (y.told(b) && up(20) > 0) {
        return b;
      }
    }
    return near(0, 7);
  }

  private static int up(int bound) {
    return draw.nextInt(bound);
  }

  /** Mostly within the bounds, now and then just beyond them or far out. */
  private static int near(int least, int most) {
    int kind = up(40);
    if (kind == 0) {
      return least - 1;
    }
    if (kind == 1) {
      return most + 1;
    }
    if (kind == 2) {
      return draw.nextInt();
    }
    return kind == 3 ? least : kind == 4 ? most : least + up(most - least + 1);
  }

  private static String alike(String call, long got, long want) {
    due.is(call, got, want);
    wrong += got == want ? 0 : 1;
    return call + " -> " + got;
  }

  private static String alike(String call, boolean got, boolean want) {
    return alike(call, got ? 1 : 0, want ? 1 : 0);
  }

  private static void feed(int... bytes) {
    if (up(20) > 0) {
      alike("check(0)", x.check(0), y.check(0));
    }
    for (int from = 0; from < Math.max(1, bytes.length); from += 20) {
      int[] five = new int[5];
      for (int k = 0; k < 5; k++) {
        five[k] = Due.four(bytes, from + 4 * k);
      }
      alike("feed", x.feed(five[0], five[1], five[2], five[3], five[4]), y.feed(five));
    }
  }

  private static void state() {
    for (int what = -1; what < 10; what++) {
      alike("count(" + what + ")", x.count(what), y.count(what));
    }
    for (int b = 0; b < 8; b++) {
      for (int what = 0; what < 5; what++) {
        alike("bottleIs(" + b + ", " + what + ")", x.bottleIs(b, what), y.bottleIs(b, what));
      }
      for (int w = 0; w < 16; w++) {
        for (int what = 0; what < 3; what++) {
          alike("fear(" + b + ", " + w + ", " + what + ")", x.fear(b, w, what), y.fear(b, w, what));
        }
      }
    }
    for (int w = 0; w < 16; w++) {
      alike("rhyme(" + w + ")", x.rhyme(w), y.rhyme(w));
    }
  }

  private static String call() {
    int a = someBottle();
    int b = someBottle();
    int w = near(0, 15);
    int n = up(3) == 0 ? near(1, 60) : near(1, 6);
    int what;
    switch (up(34)) {
      case 0:
      case 1: {
        a = up(3) == 0 ? near(0, 7) : a;
        int kind = near(0, 4);
        return alike("bottle(" + a + ", " + kind + ")", x.bottle(a, kind), y.bottle(a, kind));
      }
      case 2: {
        int words = up(2) == 0 ? near(0, 999) : up(30);
        return alike("ink(" + a + ", " + words + ")", x.ink(a, words), y.ink(a, words));
      }
      case 3: {
        int v = near(0, 99);
        return alike("nerve(" + v + ")", x.nerve(v), y.nerve(v));
      }
      case 4: {
        int seed = near(0, 65535);
        return alike("pressed(" + a + ", " + seed + ")", x.pressed(a, seed), y.pressed(a, seed));
      }
      case 5:
      case 6:
      case 7: {
        String text = Texts.spoilt(draw, Texts.law(draw));
        feed(Due.bytesOf(text));
        int length = text.length();
        return alike("law " + text, x.law(length), y.law(length));
      }
      case 8:
      case 9:
      case 10: {
        String text = Texts.spoilt(draw, Texts.grief(draw));
        feed(Due.bytesOf(text));
        int length = text.length();
        return alike("grief " + a + " " + text, x.grief(a, length), y.grief(a, length));
      }
      case 11:
      case 12: {
        String text = Texts.spoilt(draw, Texts.letter(draw));
        feed(Due.bytesOf(text));
        int length = text.length();
        return alike("letter " + text, x.letter(length), y.letter(length));
      }
      case 13:
      case 14:
        return alike("days(" + n + ")", x.days(n), y.days(n));
      case 15:
        what = up(3) == 0 ? near(0, 2) : near(100 * (1 + up(2)), 207);
        return alike("tried(" + n + ", " + what + ")", x.tried(n, what), y.tried(n, what));
      case 16:
        w = up(4) > 0 && !y.letter.isEmpty() ? y.letter.get(up(y.letter.size())) : w;
        return alike("used(" + a + ", " + w + ", " + n + ")", x.used(a, w, n), y.used(a, w, n));
      case 17:
        what = up(4) == 0 ? near(100, 101) : near(0, up(3) == 0 ? 47 : y.count(8));
        return alike("changes(" + what + ")", x.changes(what), y.changes(what));
      case 18:
        return alike("leastSalt(" + a + ")", x.leastSalt(a), y.leastSalt(a));
      case 19:
        what = near(0, 1);
        return alike("mixture(" + a + ", " + b + ", " + what + ")", x.mixture(a, b, what), y.mixture(a, b, what));
      case 20: {
        int k = near(1, 12);
        int[] bytes = new int[up(3) == 0 ? 24 : 40];
        for (int i = 0; i < bytes.length; i++) {
          bytes[i] = up(60) == 0 ? up(256) : i % 2 == 0 ? up(16) : up(2);
        }
        feed(bytes);
        return alike("whose(" + k + ")", x.whose(k), y.whose(k));
      }
      case 21: {
        int bottles = up(8) == 0 ? near(0, 255) : y.told() & up(256);
        what = near(0, 1);
        return alike("next(" + bottles + ", " + what + ")", x.next(bottles, what), y.next(bottles, what));
      }
      case 22:
        what = near(0, 1);
        return alike("guard(" + what + ")", x.guard(what), y.guard(what));
      case 23:
      case 24: {
        int k = near(1, 6);
        int[] words = new int[20];
        for (int i = 0; i < words.length; i++) {
          words[i] = up(3) == 0 ? up(17) : (3 * i + up(3)) % 16;
        }
        feed(words);
        what = near(0, 1);
        return alike("training(" + a + ", " + k + ", " + what + ")", x.training(a, k, what), y.training(a, k, what));
      }
      case 25:
        what = near(0, 2);
        return alike("borne(" + what + ")", x.borne(what), y.borne(what));
      case 26: {
        int m = near(1, 6);
        int k = near(1, 6);
        int great = up(2) == 0 ? 3 : 256;
        int[] table = new int[72];
        for (int i = 0; i < table.length; i++) {
          table[i] = up(great);
        }
        feed(table);
        what = near(0, 2);
        return alike("treaty(" + m + ", " + k + ", " + what + ")", x.treaty(m, k, what), y.treaty(m, k, what));
      }
      case 27: {
        int k = near(1, 9);
        int[] tenths = new int[9];
        for (int i = 0; i < tenths.length; i++) {
          tenths[i] = up(100) == 0 ? up(256) : up(11);
        }
        feed(tenths);
        what = near(0, 3);
        return alike("forgery(" + k + ", " + what + ")", x.forgery(k, what), y.forgery(k, what));
      }
      case 28: {
        int k = 1 + up(12);
        int[] order = new int[k];
        for (int i = 0; i < k; i++) {
          int to = up(i + 1);
          order[i] = order[to];
          order[to] = i;
        }
        if (up(10) == 0) {
          order[up(k)] = up(14);
        }
        feed(order);
        what = near(0, 1);
        return alike("rings(" + k + ", " + what + ")", x.rings(k, what), y.rings(k, what));
      }
      case 29: {
        int seed = near(0, 65535);
        return alike("seed(" + seed + ")", x.seed(seed), y.seed(seed));
      }
      case 30:
        return alike("keep()", x.keep(), y.keep());
      case 31:
        return alike("undo()", x.undo(), y.undo());
      case 32: {
        int k = near(0, 8);
        int[] salts = new int[8];
        for (int i = 0; i < 8; i++) {
          salts[i] = up(30) == 0 ? up(256) : y.told(i) ? y.bottleIs(i, 1) : 255;
        }
        feed(salts);
        return alike("check(" + k + ")", x.check(k), y.check(k));
      }
      default:
        state();
        return "state";
    }
  }
}

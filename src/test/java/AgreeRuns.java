import java.util.ArrayList;
import java.util.Arrays;
import java.util.List;
import java.util.Random;

/**
 * Drawn chanceries, each made more than once: what one is asked must agree with what is then done in another one, and
 * with what other promises answer. The draws are always the same ones.
 */
final class AgreeRuns {
  private static final int CHANCERIES = 300;

  private static Due due;
  private static int number;
  private static String lettered;
  private static int[] told;

  private AgreeRuns() {
  }

  static void play(Due counted) {
    due = counted;
    for (number = 0; number < CHANCERIES; number++) {
      triedAndDays();
      daysOneByOne();
      usedAndDays();
      roundsWrittenOut();
      saltAndGrief();
      mixtureAndFear();
      bearing();
      rowOfBottles();
      keptAndUndone();
      toldAnew();
      faultsBetween();
    }
    for (int seed = 0; seed < 65536; seed += 4095) {
      pressedAndDrawn(seed);
    }
  }

  private static void is(String call, long got, long want) {
    due.is("chancery " + number + ": " + call, got, want);
  }

  /** The same one each time for a number: at most four BOTTLES with a past, a LETTER and, mostly, a LAW. */
  private static AfraidInk chancery() {
    return chancery(true);
  }

  private static AfraidInk chancery(boolean withRounds) {
    Random draw = new Random(number);
    AfraidInk x = new AfraidInk();
    int bottles = 1 + draw.nextInt(4);
    for (int k = 0; k < bottles; k++) {
      int b = draw.nextInt(8);
      x.bottle(b, draw.nextInt(5));
      if (draw.nextInt(3) == 0) {
        x.pressed(b, draw.nextInt(65536));
      }
      Due.grief(x, b, Texts.grief(draw));
      if (draw.nextInt(3) == 0) {
        x.ink(b, draw.nextInt(60));
      }
    }
    x.nerve(draw.nextInt(80));
    x.seed(draw.nextInt(65536));
    letter(x, draw, withRounds);
    if (draw.nextInt(4) > 0) {
      Due.law(x, Texts.law(draw));
    }
    x.days(1 + draw.nextInt(4));
    told = bottlesOf(x);
    return x;
  }

  private static void letter(AfraidInk x, Random draw, boolean withRounds) {
    String part = words(draw, 1 + draw.nextInt(5));
    String tail = words(draw, draw.nextInt(4));
    int times = 2 + draw.nextInt(8);
    lettered = part.repeat(times) + tail;
    String text = withRounds ? times + "(" + part + ")" + tail : lettered;
    is("letter " + text, Due.letter(x, text), lettered.length());
  }

  private static String words(Random draw, int howMany) {
    StringBuilder text = new StringBuilder();
    for (int k = 0; k < howMany; k++) {
      text.append((char) ('a' + draw.nextInt(draw.nextBoolean() ? 4 : 16)));
    }
    return text.toString();
  }

  private static int[] bottlesOf(AfraidInk x) {
    int bits = x.count(1);
    return java.util.stream.IntStream.range(0, 8).filter(b -> (bits >> b & 1) != 0).toArray();
  }

  private static List<Integer> portrait(AfraidInk x) {
    List<Integer> seen = new ArrayList<>();
    for (int what = 0; what <= 8; what++) {
      seen.add(x.count(what));
    }
    for (int b : bottlesOf(x)) {
      for (int what = 0; what < 3; what++) {
        seen.add(x.bottleIs(b, what));
      }
      for (int w = 0; w < 16; w++) {
        seen.add(100 * x.fear(b, w, 0) + x.fear(b, w, 1));
      }
    }
    for (int w = 0; w < 16; w++) {
      seen.add(x.rhyme(w));
    }
    return seen;
  }

  private static void alike(String call, AfraidInk x, AfraidInk y) {
    is(call + ": all is alike", portrait(x).equals(portrait(y)) ? 1 : 0, 1);
  }

  private static int triesOfAll(AfraidInk x) {
    int sum = 0;
    for (int b : told) {
      for (int w = 0; w < 16; w++) {
        sum += x.fear(b, w, 1);
      }
    }
    return sum;
  }

  private static int inkOfAll(AfraidInk x) {
    return Arrays.stream(told).map(b -> x.bottleIs(b, 2)).sum();
  }

  private static void triedAndDays() {
    AfraidInk x = chancery();
    AfraidInk y = chancery();
    int n = 1 + number % 20;
    int tries = triesOfAll(y);
    int ink = inkOfAll(y);
    int pictures = y.count(3);
    int written = y.days(n);
    is("tried(" + n + ", 0) and days", x.tried(n, 0), written);
    is("tried(" + n + ", 1) and PICTURES", x.tried(n, 1), y.count(3) - pictures);
    // Each try takes INK and is a TRY more; each USED takes nine of them away.
    is("tried(" + n + ", 2) and TRIES", 9 * x.tried(n, 2), tries + ink - inkOfAll(y) - triesOfAll(y));
    is("all WORDS of the DAYS", x.tried(n, 0) + x.tried(n, 1), n * x.count(8));
    for (int b : told) {
      is("tried(" + n + ", 100 + " + b + ")", x.tried(n, 100 + b), y.bottleIs(b, 2));
      is("tried(" + n + ", 200 + " + b + ")", x.tried(n, 200 + b), y.bottleIs(b, 4));
    }
    x.days(n);
    alike("tried changed nothing, and days", x, y);
  }

  private static void daysOneByOne() {
    AfraidInk x = chancery();
    AfraidInk y = chancery();
    int n = 2 + number % 9;
    int written = 0;
    for (int k = 0; k < n; k++) {
      written += y.days(1);
    }
    is("days(" + n + ") and one by one", x.days(n), written);
    alike("days(" + n + ") and one by one", x, y);
  }

  private static void usedAndDays() {
    AfraidInk x = chancery();
    AfraidInk y = chancery();
    int n = 1 + number % 12;
    int b = told[number % told.length];
    int[] first = new int[16];
    Arrays.fill(first, -2);
    for (int day = 0; day <= n; day++) {
      int borne = y.bottleIs(b, 3);
      for (int w = 0; w < 16; w++) {
        first[w] = first[w] == -2 && (borne >> w & 1) != 0 ? day : first[w];
      }
      y.days(1);
    }
    for (int w = 0; w < 16; w++) {
      is("used(" + b + ", " + w + ", " + n + ") and days", x.used(b, w, n), first[w]);
    }
  }

  private static void roundsWrittenOut() {
    AfraidInk x = chancery(true);
    AfraidInk y = chancery(false);
    alike("a round and the same WORDS written out", x, y);
  }

  private static void saltAndGrief() {
    AfraidInk x = chancery();
    for (int b : told) {
      int more = x.leastSalt(b);
      int salt = x.bottleIs(b, 1);
      AfraidInk y = chancery();
      Due.grief(y, b, "!" + (more == 100 ? 99 : salt + more));
      is("leastSalt(" + b + ") is enough", bearsLetter(y, b) ? 1 : 0, more == 100 ? 0 : 1);
      if (more > 0 && more < 100) {
        Due.grief(y, b, "!" + (salt + more - 1));
        is("leastSalt(" + b + "), one less", bearsLetter(y, b) ? 1 : 0, 0);
      }
    }
  }

  private static boolean bearsLetter(AfraidInk x, int b) {
    int borne = x.bottleIs(b, 3);
    return lettered.chars().allMatch(sign -> (borne >> sign - 'a' & 1) != 0);
  }

  private static void mixtureAndFear() {
    AfraidInk x = chancery();
    if (told.length < 2) {
      is("mixture with a BOTTLE that is not told", x.mixture(told[0], told[0] ^ 1, 0), -1);
      return;
    }
    int a = told[0];
    int b = told[1];
    int least = -2;
    int howMany = 0;
    for (int parts = 0; parts <= 8; parts++) {
      boolean areBorne = true;
      for (int k = 0; k < lettered.length(); k++) {
        int w = lettered.charAt(k) - 'a';
        areBorne &= (parts * x.fear(a, w, 2) + (8 - parts) * x.fear(b, w, 2)) / 8 <= x.count(2);
        if (!areBorne) {
          break;
        }
      }
      howMany += areBorne ? 1 : 0;
      least = areBorne && least == -2 ? parts : least;
      // An object is used for 512 calls: another one of the same goes on.
      x = chancery();
    }
    is("mixture(" + a + ", " + b + ", 0) and fear", x.mixture(a, b, 0), least);
    is("mixture(" + a + ", " + b + ", 1) and fear", x.mixture(a, b, 1), howMany);
    is("mixture the other way about", x.mixture(b, a, 1), howMany);
  }

  private static void bearing() {
    AfraidInk x = chancery();
    int nerve = x.count(2);
    int all = 65535;
    int any = 0;
    int[] borne = new int[told.length];
    for (int k = 0; k < told.length; k++) {
      for (int w = 0; w < 16; w++) {
        borne[k] |= x.fear(told[k], w, 2) <= nerve ? 1 << w : 0;
      }
      is("bottleIs(" + told[k] + ", 3) and fear", x.bottleIs(told[k], 3), borne[k]);
      all &= borne[k];
      any |= borne[k];
    }
    is("borne(0)", x.borne(0), all);
    is("borne(1)", x.borne(1), 65535 & ~any);
    int rhyming = 0;
    for (int w = 0; w < 16; w++) {
      rhyming += x.rhyme(w) == w ? 0 : 1;
      is("the RHYME of the RHYME of " + w, x.rhyme(x.rhyme(w)), w);
    }
    is("borne(2)", 2 * x.borne(2), rhyming);
    whose(x, borne);
    next(x, borne);
    guard(x, borne);
  }

  private static void whose(AfraidInk x, int[] borne) {
    for (int k = 0; k < told.length; k++) {
      int[] bytes = new int[24];
      int asked = 0;
      for (int i = 0; i < 12; i++) {
        int w = (number + 5 * i) % 16;
        bytes[2 * i] = w;
        bytes[2 * i + 1] = borne[k] >> w & 1;
        asked |= 1 << w;
      }
      int writers = 0;
      for (int other = 0; other < told.length; other++) {
        writers |= ((borne[other] ^ borne[k]) & asked) == 0 ? 1 << told[other] : 0;
      }
      Due.feed(x, bytes);
      is("whose(12) of what " + told[k] + " bears", x.whose(12), writers);
    }
  }

  private static void next(AfraidInk x, int[] borne) {
    int bottles = x.count(1);
    int word = -1;
    int least = 9;
    for (int w = 0; w < 16; w++) {
      int bearing = 0;
      for (int one : borne) {
        bearing += one >> w & 1;
      }
      int greater = Math.max(bearing, told.length - bearing);
      word = greater < least ? w : word;
      least = Math.min(least, greater);
    }
    is("next(" + bottles + ", 0)", x.next(bottles, 0), word);
    is("next(" + bottles + ", 1)", x.next(bottles, 1), least);
  }

  private static void guard(AfraidInk x, int[] borne) {
    int best = -2;
    for (int words = 65535; words >= 0; words--) {
      boolean isNoMore = best == -2 || Integer.bitCount(words) <= Integer.bitCount(best);
      best = isNoMore && areApart(borne, words) ? words : best;
    }
    is("guard(0)", x.guard(0), best == -2 ? -2 : Integer.bitCount(best));
    is("guard(1)", x.guard(1), best);
  }

  private static boolean areApart(int[] borne, int words) {
    for (int a = 0; a < borne.length; a++) {
      for (int b = 0; b < a; b++) {
        if (((borne[a] ^ borne[b]) & words) == 0) {
          return false;
        }
      }
    }
    return true;
  }

  /** The fewest changes are those of one that keeps to a group of BOTTLES as long as one of them BEARS all. */
  private static void rowOfBottles() {
    AfraidInk x = chancery();
    int[] bearers = new int[lettered.length()];
    int pictures = 0;
    for (int place = 0; place < bearers.length; place++) {
      for (int b : told) {
        bearers[place] |= (x.bottleIs(b, 3) >> lettered.charAt(place) - 'a' & 1) << b;
      }
      pictures += bearers[place] == 0 ? 1 : 0;
    }
    is("changes(101)", x.changes(101), pictures);
    int fewest = fewestChanges(bearers, 0, -1);
    is("changes(100)", x.changes(100), fewest);
    int before = -1;
    int made = 0;
    for (int place = 0; place < bearers.length; place++) {
      int least = -2;
      for (int b = 7; b >= 0; b--) {
        boolean canBe = (bearers[place] >> b & 1) != 0;
        int change = before < 0 || before == b ? 0 : 1;
        least = canBe && made + change + fewestChanges(bearers, place + 1, b) == fewest ? b : least;
      }
      is("changes(" + place + ")", x.changes(place), least);
      made += least < 0 || before < 0 || before == least ? 0 : 1;
      before = least < 0 ? before : least;
    }
    is("changes behind the LETTER", x.changes(bearers.length), bearers.length > 47 ? -1 : -4);
  }

  private static int fewestChanges(int[] bearers, int from, int before) {
    int group = before < 0 ? 255 : 1 << before;
    int changes = 0;
    for (int place = from; place < bearers.length; place++) {
      if (bearers[place] != 0) {
        changes += (group & bearers[place]) == 0 ? 1 : 0;
        group = (group & bearers[place]) == 0 ? bearers[place] : group & bearers[place];
      }
    }
    return changes;
  }

  /** Between the two all is changed that is KEPT; what is not KEPT is told to the other one, too. */
  private static void keptAndUndone() {
    AfraidInk x = chancery();
    AfraidInk y = chancery();
    Random draw = new Random(-number);
    int day = x.count(0);
    is("keep()", x.keep(), day);
    x.nerve(draw.nextInt(100));
    x.bottle(draw.nextInt(8), draw.nextInt(5));
    x.pressed(told[0], draw.nextInt(65536));
    Due.grief(x, told[told.length - 1], "a=9;b+50;c-30;!30;#1;a~b;c~d;e~e");
    x.days(1 + draw.nextInt(20));
    x.seed(draw.nextInt(65536));
    x.ink(told[0], draw.nextInt(100));
    String text = Texts.law(draw);
    Due.law(x, text);
    x.days(1);
    is("undo()", x.undo() ? 1 : 0, 1);
    Due.law(y, text);
    int salt = y.bottleIs(told[0], 1);
    Due.grief(y, told[0], "a~b;c~d;e~e;!" + salt);
    alike("undo()", x, y);
    is("days(5) behind undo()", x.days(5), y.days(5));
    alike("days(5) behind undo()", x, y);
  }

  /** A BOTTLE told anew is one that is PRESSED by any seed and then told to dread nothing. */
  private static void toldAnew() {
    AfraidInk x = chancery();
    AfraidInk y = chancery();
    int b = told[number % told.length];
    int kind = number % 5;
    x.bottle(b, kind);
    y.pressed(b, number);
    Due.grief(y, b, "a=0;b=0;c=0;d=0;e=0;f=0;g=0;h=0;i=0;j=0;k=0;l=0;m=0;n=0;o=0;p=0;#" + kind);
    alike("bottle(" + b + ", " + kind + ") anew", x, y);
    is("days(9) behind it", x.days(9), y.days(9));
    alike("days(9) behind it", x, y);
  }

  private static void faultsBetween() {
    AfraidInk x = chancery();
    AfraidInk y = chancery();
    Random draw = new Random(number);
    for (int k = 0; k < 3; k++) {
      String letter = cut(Texts.letter(draw), 59) + "q";
      is("letter " + letter, Due.letter(x, letter) <= -1000 ? 1 : 0, 1);
      String grief = Texts.grief(draw) + ";z";
      is("grief " + grief, Due.grief(x, told[0], grief) <= -1000 ? 1 : 0, 1);
      String law = cut(Texts.law(draw), 238) + ";z";
      is("law " + law, Due.law(x, law) <= -1000 ? 1 : 0, 1);
      is("days(2) behind FAULTS", x.days(2), y.days(2));
    }
    alike("FAULTS", x, y);
  }

  private static String cut(String text, int most) {
    return text.length() > most ? text.substring(0, most) : text;
  }

  /** PRESSED by a seed: the DRAWS that DAYS have by the same SEED. */
  private static void pressedAndDrawn(int seed) {
    AfraidInk x = new AfraidInk();
    AfraidInk y = new AfraidInk();
    x.bottle(0, 0);
    y.seed(seed);
    Due.letter(y, "a");
    int all = x.pressed(0, seed);
    int sum = 0;
    for (int w = 0; w < 16; w++) {
      y.days(1);
      int tens = y.count(7) % 10;
      y.days(1);
      int dread = 10 * tens + y.count(7) % 10;
      is("pressed by " + seed + ": DREAD of " + w, x.fear(0, w, 0), dread);
      sum += dread;
    }
    is("pressed by " + seed, all, sum);
    is("its X stays", x.count(7), 1);
  }
}

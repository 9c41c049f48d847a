/** "Terms", a DAY: INK that ends, 9 TRIES, the last DAY, DRAWS. */
final class DayEdges extends Edge {
  static void run() {
    in("Terms");
    whoIsTried();
    inkIsOneLess();
    goesDownOrBeadsUp();
    nineTries();
    rhymePastNinetyNine();
    noBottle();
    theLastDay();
    draws();
    triedChangesNothing();
    usedBehindDays();
  }

  private static AfraidInk letterOf(String text, int... kinds) {
    AfraidInk x = told(kinds);
    Due.letter(x, text);
    return x;
  }

  /** The BOTTLE that is tried for the LETTER's one WORD, -1: none. */
  private static int whoIs(AfraidInk x) {
    int who = -1;
    for (int b = 0; b < 8; b++) {
      int left = x.tried(1, 100 + b);
      if (left != -1 && left != x.bottleIs(b, 2)) {
        is("no other one is tried than " + b, who, -1);
        who = b;
      }
    }
    return who;
  }

  private static void whoIsTried() {
    says("of told BOTTLES with INK that are opened the one that is liked most (e above 0; of like ones the one of least"
        + " FEAR, then the lowest) is tried");
    is("no BOTTLES", whoIs(letterOf("a")), -1);
    AfraidInk x = letterOf("a", 0, 0, 0, 0, 0, 0, 0, 0);
    is("of like ones the lowest", whoIs(x), 0);
    x.ink(0, 0);
    is("0 is without INK", whoIs(x), 1);
    Due.law(x, "x(b=1)");
    is("1 is not opened", whoIs(x), 2);
    Due.grief(x, 2, "a=1");
    is("2 has FEAR", whoIs(x), 3);
    Due.law(x, "f1(b<7)");
    is("7 has least FEAR", whoIs(x), 7);
    Due.law(x, "e2(b=6)");
    Due.grief(x, 6, "a=99");
    is("6 is liked most, by all its FEAR", whoIs(x), 6);
    Due.law(x, "e0(b<7);e1(b=7)");
    is("e above 0: 7 alone", whoIs(x), 7);
    Due.law(x, "e0(b<8)");
    is("none is liked", whoIs(x), -1);
    Due.law(x, "e2(b>4)");
    is("of like ones 5 and 7 the lowest, 6 has FEAR", whoIs(x), 5);
    Due.law(x, "e9(b=0);e1(b=1)");
    is("liked most without INK: the next ones", whoIs(x), 1);
    for (int b = 0; b < 8; b++) {
      x.ink(b, 0);
    }
    is("none with INK", whoIs(x), -1);
  }

  private static void inkIsOneLess() {
    says("INK is one less, TRIES of the WORD one more");
    AfraidInk x = letterOf("a", 0);
    x.ink(0, 2);
    x.days(1);
    is("2 less 1", x.bottleIs(0, 2), 1);
    is("TRIES", x.fear(0, 0, 1), 1);
    x.days(1);
    is("1 less 1", x.bottleIs(0, 2), 0);
    is("TRIES again", x.fear(0, 0, 1), 2);
    is("INK has ended: none is WRITTEN", x.days(1), 0);
    is("it stays at 0", x.bottleIs(0, 2), 0);
    is("TRIES stay", x.fear(0, 0, 1), 2);
    is("it is a PICTURE", x.count(3), 1);
    AfraidInk y = letterOf("5a", 0);
    y.ink(0, 3);
    is("INK that ends in a LETTER", y.days(1), 3);
    is("PICTURES of the others", y.count(3), 2);
    is("TRIES of those with INK", y.fear(0, 0, 1), 3);
    is("of other WORDS none", y.fear(0, 1, 1), 0);
  }

  private static void goesDownOrBeadsUp() {
    says("is its FEAR (as it was ahead) no more than NERVE, the WORD is WRITTEN (one more), else it beads up: PICTURES"
        + " are one more");
    AfraidInk x = letterOf("a", 0);
    Due.grief(x, 0, "a=20");
    is("20 by NERVE 20", x.days(1), 1);
    is("WRITTEN", x.count(4), 1);
    is("no PICTURES", x.count(3), 0);
    Due.grief(x, 0, "a=21");
    is("21 by NERVE 20", x.days(1), 0);
    is("WRITTEN stays", x.count(4), 1);
    is("PICTURES", x.count(3), 1);
    is("INK is less all the same", x.bottleIs(0, 2), 997);
    x.nerve(0);
    Due.grief(x, 0, "a=0");
    is("0 by NERVE 0", x.days(1), 1);
    Due.grief(x, 0, "a=1");
    is("1 by NERVE 0", x.days(1), 0);
    x.nerve(99);
    Due.grief(x, 0, "a=99");
    is("99 by NERVE 99", x.days(1), 1);
    AfraidInk y = letterOf("9a", 0);
    Due.grief(y, 0, "a=21");
    is("the ninth beads up: FEAR as it was ahead", y.days(1), 0);
    is("PICTURES of all nine", y.count(3), 9);
    is("those behind it go down", y.tried(1, 0), 9);
  }

  private static void nineTries() {
    says("at 9 TRIES the BOTTLE is USED to it: DREAD of it 0, TRIES 0, DREAD of its RHYME 9 more (99 at most; if it"
        + " has one).");
    AfraidInk x = letterOf("8a", 0);
    Due.grief(x, 0, "a=50;b=10;a~b");
    is("8 TRIES: USED to none", x.tried(1, 2), 0);
    x.days(1);
    is("8 TRIES", x.fear(0, 0, 1), 8);
    is("DREAD as it was", x.fear(0, 0, 0), 50);
    is("that of the RHYME as it was", x.fear(0, 1, 0), 10);
    Due.letter(x, "a");
    is("9 TRIES: USED to one", x.tried(1, 2), 1);
    x.days(1);
    is("TRIES", x.fear(0, 0, 1), 0);
    is("DREAD", x.fear(0, 0, 0), 0);
    is("DREAD of the RHYME is 9 more", x.fear(0, 1, 0), 19);
    is("TRIES of the RHYME stay", x.fear(0, 1, 1), 0);
    Due.letter(x, "9a9b9a");
    is("USED to three", x.tried(1, 2), 3);
    x.days(1);
    is("a, by b then", x.fear(0, 0, 0), 0);
    is("b, by a last", x.fear(0, 1, 0), 9);
    AfraidInk y = letterOf("9a", 0);
    Due.grief(y, 0, "a=50;b=10");
    y.days(1);
    is("without a RHYME: DREAD", y.fear(0, 0, 0), 0);
    is("without a RHYME: of all", y.bottleIs(0, 4), 10);
  }

  private static void rhymePastNinetyNine() {
    says("DREAD of its RHYME 9 more (99 at most; if it has one)");
    int[] ahead = {0, 1, 89, 90, 91, 98, 99};
    int[] behind = {9, 10, 98, 99, 99, 99, 99};
    for (int k = 0; k < ahead.length; k++) {
      AfraidInk x = letterOf("9p", 1);
      Due.grief(x, 0, "o=" + ahead[k] + ";o~p;p=33");
      x.days(1);
      is("9 more than " + ahead[k], x.fear(0, 14, 0), behind[k]);
      is("that of the WORD itself", x.fear(0, 15, 0), 0);
    }
  }

  private static void noBottle() {
    says("If there is no BOTTLE: PICTURES are one more.");
    AfraidInk x = letterOf("3a");
    is("none is told", x.days(1), 0);
    is("PICTURES", x.count(3), 3);
    x.bottle(0, 0);
    x.ink(0, 0);
    is("none has INK", x.days(1), 0);
    is("PICTURES then", x.count(3), 6);
    x.ink(0, 999);
    Due.law(x, "x(b=0)");
    is("none is opened", x.days(1), 0);
    is("PICTURES behind that", x.count(3), 9);
    Due.law(x, "e0(b=0)");
    is("none is liked", x.days(1), 0);
    is("PICTURES at last", x.count(3), 12);
    is("none was tried", x.fear(0, 0, 1), 0);
    is("no INK is less", x.bottleIs(0, 2), 999);
    is("WRITTEN", x.count(4), 0);
    AfraidInk y = told(0);
    is("no LETTER", y.days(1), 0);
    is("no PICTURES by no LETTER", y.count(3), 0);
  }

  private static void theLastDay() {
    says("THE DAY is one more (9999 at most: then none goes by).");
    AfraidInk x = told(0);
    is("THE DAY is one more, without a LETTER too", x.days(1) + x.count(0), 1);
    for (int k = 0; k < 166; k++) {
      x.days(60);
    }
    x.days(36);
    is("THE DAY 9997", x.count(0), 9997);
    Due.letter(x, "a");
    is("two are left: tried", x.tried(60, 0), 2);
    is("one is tried", x.tried(1, 0), 1);
    x.days(1);
    is("THE DAY 9998", x.count(0), 9998);
    is("one is left of 60", x.days(60), 1);
    is("THE DAY 9999", x.count(0), 9999);
    int ahead = x.count(7);
    is("none goes by", x.days(1), 0);
    is("nor of 60", x.days(60), 0);
    is("THE DAY stays", x.count(0), 9999);
    is("X stays", x.count(7), ahead);
    is("WRITTEN stays", x.count(4), 2);
    is("PICTURES stay", x.count(3), 0);
    is("INK stays", x.bottleIs(0, 2), 997);
    is("TRIES stay", x.fear(0, 0, 1), 2);
    is("none can be tried", x.tried(60, 0) + x.tried(60, 1) + x.tried(60, 2), 0);
    Due.grief(x, 0, "a=30");
    is("no DAY is left to get USED", x.used(0, 0, 60), -2);
    is("what it BEARS it BEARS", x.used(0, 1, 60), 0);
    is("KEPT on the last DAY", x.keep(), 9999);
  }

  private static void draws() {
    says("DRAWS: X = (25173 X + 13849) modulo 65536 (X is THE SEED at first, 1): X modulo 10.");
    AfraidInk x = letterOf("a", 3);
    is("X at first", x.count(7), 1);
    int[] seeds = {0, 1, 2, 65534, 65535, 32767, 32768, seedBefore(0), seedBefore(65535), seedBefore(9)};
    for (int seed : seeds) {
      x.seed(seed);
      long next = (25173L * seed + 13849) % 65536;
      Due.law(x, "x(u=" + next % 10 + ")");
      is("u behind " + seed, x.tried(1, 0), 0);
      x.days(1);
      is("X behind " + seed, x.count(7), next);
    }
    x.seed(65535);
    x.days(1);
    is("X behind 65535 by hand", x.count(7), 54212);
    x.seed(0);
    x.days(1);
    is("X behind 0 by hand", x.count(7), 13849);
    x.seed(seedBefore(65535));
    x.days(1);
    is("X is 65535", x.count(7), 65535);
    x.seed(seedBefore(0));
    x.days(1);
    is("X is 0", x.count(7), 0);
    is("one DRAW for each WORD, not for each BOTTLE", drawsFor("5a", 3, 3, 3), drawsFor("5a"));
  }

  private static int seedBefore(int x) {
    for (int seed = 0; seed < 65536; seed++) {
      if ((25173L * seed + 13849) % 65536 == x) {
        return seed;
      }
    }
    return -1;
  }

  private static int drawsFor(String text, int... kinds) {
    AfraidInk x = letterOf(text, kinds);
    x.days(1);
    return x.count(7);
  }

  private static void triedChangesNothing() {
    says("TRIED are n DAYS by the DRAWS that will come (nothing is changed).");
    AfraidInk x = letterOf("9a4b", 0, 1);
    Due.grief(x, 0, "a=30;b=5;a~b");
    Due.law(x, "f30(u<5);e2(b=1&u>6)");
    int first = x.tried(60, 0);
    is("again", x.tried(60, 0), first);
    is("X stays", x.count(7), 1);
    is("THE DAY stays", x.count(0), 0);
    is("PICTURES, WRITTEN stay", x.count(3) + x.count(4), 0);
    is("INK stays", x.bottleIs(0, 2) + x.bottleIs(1, 2), 1998);
    is("DREAD stays", x.bottleIs(0, 4), 35);
    is("TRIES stay", x.fear(0, 0, 1) + x.fear(0, 1, 1) + x.fear(1, 0, 1) + x.fear(1, 1, 1), 0);
    is("these come", x.days(60), first);
  }

  private static void usedBehindDays() {
    says("USED: behind how many of n DAYS a BOTTLE BEARS a WORD first.");
    AfraidInk x = letterOf("a", 0);
    Due.grief(x, 0, "a=21;b=20");
    is("behind none", x.used(0, 1, 1), 0);
    is("not behind 8", x.used(0, 0, 8), -2);
    is("behind 9 of 9", x.used(0, 0, 9), 9);
    is("behind 9 of 60", x.used(0, 0, 60), 9);
    Due.letter(x, "b");
    is("never", x.used(0, 0, 60), -2);
    Due.letter(x, "6(8a)");
    is("behind the first DAY", x.used(0, 0, 1), 1);
    x.days(1);
    is("it BEARS it then", x.used(0, 0, 1), 0);
    x = letterOf("9b9c", 0);
    Due.grief(x, 0, "b=21;c=21;b~c");
    x.nerve(8);
    is("c is borne behind the first, b has 9 then", x.used(0, 2, 60), 1);
    is("b is not behind 55", x.used(0, 1, 55), -2);
    // 999 less 55 times 18 are 9: b is tried nine times more, and there is no INK for c.
    is("b is as INK ends", x.used(0, 1, 56), 56);
    x.nerve(9);
    is("b is by NERVE 9", x.used(0, 1, 60), 1);
  }
}

/** "Terms", the part marked 3: treaties, forgeries, pressed galls, rings, what is KEPT, CHECK. */
final class TableEdges extends Edge {
  static void run() {
    in("Terms");
    treaty();
    rests();
    bargains();
    forgery();
    pressed();
    rings();
    keptAndUndone();
    check();
  }

  private static int treaty(int n, int m, int what, int... table) {
    AfraidInk x = new AfraidInk();
    Due.feed(x, table);
    return x.treaty(n, m, what);
  }

  private static void treaty() {
    says("A TREATY: two clerks lend one of 1 to 6 bottles each; a table of what each gets (0 to 255 for the one, 0 to 255"
        + " for the other)");
    int[] table = new int[98];
    table[70] = 255;
    table[71] = 255;
    is("1 by 1", treaty(1, 1, 0, table), 1);
    is("6 by 6: RESTS", treaty(6, 6, 0, table), 26);
    is("6 by 6: BARGAINS", treaty(6, 6, 2, table), 1);
    is("0 by 1", treaty(0, 1, 0, table), -1);
    is("1 by 0", treaty(1, 0, 0, table), -1);
    is("7 by 1", treaty(7, 1, 0, table), -1);
    is("1 by 7", treaty(1, 7, 0, table), -1);
    is("1 by 6", treaty(1, 6, 0, table), 6);
    is("6 by 1", treaty(6, 1, 0, table), 6);
    is("255 is more than 254 and 127", treaty(3, 1, 1, 254, 0, 127, 0, 255, 0), 12);
    is("255 of the other one", treaty(1, 3, 1, 0, 254, 0, 255, 0, 128), 1);
    is("0 is the least", treaty(2, 1, 1, 0, 0, 1, 0), 6);
    is("128 is more than 127", treaty(2, 1, 0, 128, 0, 127, 0), 1);
  }

  private static void rests() {
    says("RESTS: twos from which neither alone would go to have more: how many; the first (row by row).");
    is("as much is no more: all rest", treaty(2, 2, 0, 5, 5, 5, 5, 5, 5, 5, 5), 4);
    is("none", treaty(2, 2, 0, 1, 0, 0, 1, 0, 1, 1, 0), 0);
    is("none: the first", treaty(2, 2, 1, 1, 0, 0, 1, 0, 1, 1, 0), -2);
    is("the first of two", treaty(2, 2, 1, 0, 0, 2, 2, 1, 1, 0, 0), 1);
    is("both", treaty(2, 2, 0, 0, 0, 2, 2, 1, 1, 0, 0), 2);
    is("the last of 2 by 3", treaty(2, 3, 1, 0, 0, 0, 0, 0, 0, 1, 0, 1, 0, 1, 1), 8);
    int[] last = new int[72];
    for (int two = 0; two < 36; two++) {
      last[2 * two] = two / 6;
      last[2 * two + 1] = two % 6;
    }
    is("the last of 6 by 6", treaty(6, 6, 1, last), 35);
    is("it alone", treaty(6, 6, 0, last), 1);
  }

  private static void bargains() {
    says("BARGAINS none would leave: twos such that no other one gives both no less and one more: how many.");
    is("one", treaty(1, 1, 2, 0, 0), 1);
    is("all alike", treaty(1, 3, 2, 4, 4, 4, 4, 4, 4), 3);
    is("as much and one more", treaty(1, 2, 2, 4, 4, 4, 5), 1);
    is("one more and as much", treaty(2, 1, 2, 5, 4, 4, 4), 1);
    is("one more, one less", treaty(1, 2, 2, 4, 5, 5, 4), 2);
    is("255 and 0, 0 and 255, 0 and 0", treaty(3, 1, 2, 255, 0, 0, 255, 0, 0), 2);
    is("255 and 255 for all", treaty(3, 1, 2, 255, 0, 0, 255, 255, 255), 1);
  }

  private static int forgery(int what, int... tenths) {
    AfraidInk x = new AfraidInk();
    Due.feed(x, tenths);
    return x.forgery(tenths.length, what);
  }

  private static void oddsAre(int[] tenths, int... want) {
    for (int what = 0; what < 4; what++) {
      is("forgery of " + java.util.Arrays.toString(tenths) + ", what " + what, forgery(what, tenths), want[what]);
    }
  }

  private static void forgery() {
    says("FORGERY: 1 to 9 WORDS, each dared in so many tenths (0 to 10): the odds that all are, that one at least is:"
        + " fractions.");
    oddsAre(new int[] {0}, 0, 1, 0, 1);
    oddsAre(new int[] {1}, 1, 10, 1, 10);
    oddsAre(new int[] {9}, 9, 10, 9, 10);
    oddsAre(new int[] {10}, 1, 1, 1, 1);
    oddsAre(new int[] {11}, -3, -3, -3, -3);
    oddsAre(new int[] {255}, -3, -3, -3, -3);
    oddsAre(new int[] {0, 0, 0, 0, 0, 0, 0, 0, 0}, 0, 1, 0, 1);
    oddsAre(new int[] {10, 10, 10, 10, 10, 10, 10, 10, 10}, 1, 1, 1, 1);
    oddsAre(new int[] {10, 10, 10, 10, 10, 10, 10, 10, 11}, -3, -3, -3, -3);
    oddsAre(new int[] {1, 1, 1, 1, 1, 1, 1, 1, 1}, 1, 1000000000, 612579511, 1000000000);
    oddsAre(new int[] {9, 9, 9, 9, 9, 9, 9, 9, 9}, 387420489, 1000000000, 999999999, 1000000000);
    oddsAre(new int[] {5, 5, 5, 5, 5, 5, 5, 5, 5}, 1, 512, 511, 512);
    oddsAre(new int[] {0, 10}, 0, 1, 1, 1);
    oddsAre(new int[] {4, 5}, 1, 5, 7, 10);
    oddsAre(new int[10], -1, -1, -1, -1);
    oddsAre(new int[0], -1, -1, -1, -1);
  }

  private static void pressed() {
    says("PRESSED: a BOTTLE's DREAD of all WORDS by a seed (0 to 65535): for each WORD two DRAWS of its own row (X the"
        + " seed at first): ten times the first and the second; SALT, TRIES 0, INK 999.");
    int[] seeds = {0, 1, 32768, 65534, 65535};
    for (int seed : seeds) {
      AfraidInk x = told(2, 0);
      Due.grief(x, 0, "a=1;!5");
      Due.letter(x, "8p");
      x.ink(1, 0);
      x.days(1);
      int ahead = x.count(7);
      long own = seed;
      int sum = 0;
      int[] dread = new int[16];
      for (int w = 0; w < 16; w++) {
        own = (25173 * own + 13849) % 65536;
        dread[w] = (int) (10 * (own % 10));
        own = (25173 * own + 13849) % 65536;
        dread[w] += (int) (own % 10);
        sum += dread[w];
      }
      is("pressed(0, " + seed + ")", x.pressed(0, seed), sum);
      for (int w = 0; w < 16; w++) {
        is("DREAD of " + w + " by " + seed, x.fear(0, w, 0), dread[w]);
      }
      is("SALT", x.bottleIs(0, 1), 0);
      is("TRIES", x.fear(0, 15, 1), 0);
      is("INK", x.bottleIs(0, 2), 999);
      is("KIND stays", x.bottleIs(0, 0), 2);
      is("X stays", x.count(7), ahead);
      is("another one stays", x.bottleIs(1, 4) + x.bottleIs(1, 2), 0);
    }
    AfraidInk x = told(0);
    is("seed -1", x.pressed(0, -1), -1);
    is("seed 65536", x.pressed(0, 65536), -1);
    is("by hand: 2 and 7 are the first DRAWS of 1", x.pressed(0, 1) > 0 ? x.fear(0, 0, 0) : -1, 27);
  }

  private static int rings(int what, int... order) {
    AfraidInk x = new AfraidInk();
    Due.feed(x, order);
    return x.rings(order.length, what);
  }

  private static void rings() {
    says("RINGS: an order of n (1 to 12) WORDS each followed by another one (a row of bytes): how many rings there are;"
        + " after how many steps all are where they were.");
    is("n 1", rings(0, 0), 1);
    is("n 1: steps", rings(1, 0), 1);
    is("n 0", rings(0), -1);
    is("n 13", rings(0, 0, 1, 2, 3, 4, 5, 6, 7, 8, 9, 10, 11, 12), -1);
    is("n 12, each by itself", rings(0, 0, 1, 2, 3, 4, 5, 6, 7, 8, 9, 10, 11), 12);
    is("n 12, each by itself: steps", rings(1, 0, 1, 2, 3, 4, 5, 6, 7, 8, 9, 10, 11), 1);
    is("n 12, one ring", rings(0, 1, 2, 3, 4, 5, 6, 7, 8, 9, 10, 11, 0), 1);
    is("n 12, one ring: steps", rings(1, 1, 2, 3, 4, 5, 6, 7, 8, 9, 10, 11, 0), 12);
    is("3, 4 and 5: most steps", rings(1, 1, 2, 0, 4, 5, 6, 3, 8, 9, 10, 11, 7), 60);
    is("3, 4 and 5", rings(0, 1, 2, 0, 4, 5, 6, 3, 8, 9, 10, 11, 7), 3);
    is("4 and 6 have a common divisor", rings(1, 1, 2, 3, 0, 5, 6, 7, 8, 9, 4), 12);
  }

  private static void keptAndUndone() {
    says("KEPT: BOTTLES, NERVE, PICTURES, WRITTEN, THE DAY, X; UNDONE: as they were KEPT last.");
    AfraidInk x = told(0);
    is("nothing was KEPT", x.undo(), false);
    x.keep();
    Due.grief(x, 0, "a=30;b=5;!4;#1;a~b");
    Due.letter(x, "2ab");
    Due.law(x, "f1(u=9)");
    x.nerve(25);
    x.days(2);
    x.ink(0, 500);
    int ahead = x.count(7);
    int pictures = x.count(3);
    int written = x.count(4);
    is("KEPT on THE DAY", x.keep(), 2);
    x.days(30);
    x.nerve(1);
    x.seed(65535);
    x.bottle(0, 4);
    x.bottle(7, 4);
    Due.grief(x, 0, "c~d");
    Due.letter(x, "6(8p)");
    Due.law(x, "x(b=0);x(b=7)");
    x.days(1);
    x.feed(0, 0, 0, 0, 0);
    for (int k = 0; k < 2; k++) {
      is("UNDONE", x.undo(), true);
      int[] counts = {2, 1, 25, pictures, written, 2, 20, ahead, 48};
      for (int what = 0; what < counts.length; what++) {
        is("count(" + what + ")", x.count(what), counts[what]);
      }
      int[] bottle = {1, 4, 500};
      for (int what = 0; what < bottle.length; what++) {
        is("bottleIs(0, " + what + ")", x.bottleIs(0, what), bottle[what]);
      }
      is("DREAD of a", x.fear(0, 0, 0), 30);
      is("DREAD of b", x.fear(0, 1, 0), 5);
      is("TRIES of a", x.fear(0, 0, 1), 4);
      is("TRIES of b", x.fear(0, 1, 1), 2);
      is("7 is not told", x.bottleIs(7, 0), -1);
      is("RHYMES are not among them", x.rhyme(2), 3);
      x.bottle(0, 3);
      x.bottle(6, 3);
      x.nerve(0);
      x.days(5);
    }
    is("KEPT anew", x.keep(), 7);
    x.undo();
    is("as KEPT last", x.count(1), 65);
  }

  private static int check(AfraidInk x, int... salts) {
    Due.feed(x, salts);
    return x.check(salts.length);
  }

  private static void check() {
    says("CHECK: SALT of BOTTLES: right, or the first that is not so.");
    AfraidInk x = new AfraidInk();
    x.bottle(0, 0);
    x.bottle(7, 0);
    Due.grief(x, 7, "!99");
    is("of none", check(x), -1);
    is("right", check(x, 0, 255, 255, 255, 255, 255, 255, 99), -1);
    is("the first BOTTLE", check(x, 1, 255, 255, 255, 255, 255, 255, 98), 0);
    is("the last BOTTLE", check(x, 0, 255, 255, 255, 255, 255, 255, 98), 7);
    is("one that is not told", check(x, 0, 0, 255, 255, 255, 255, 255, 0), 1);
    is("one that is not told by 254", check(x, 0, 255, 254), 2);
    is("a told one as if it were not", check(x, 255), 0);
    is("those behind n do not matter", check(x, 0), -1);
    is("of nine", check(x, 0, 255, 255, 255, 255, 255, 255, 99, 0), -2);
  }
}

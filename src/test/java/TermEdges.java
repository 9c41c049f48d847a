/** "Terms", up to what a BOTTLE BEARS: the least and the greatest of each number, and what lies beyond. */
final class TermEdges extends Edge {
  static void run() {
    in("Terms");
    words();
    bottlesAndKinds();
    salt();
    dreadAndTries();
    ink();
    nerve();
    countsAtFirst();
    shrinkingByKind();
    lessSalt();
    fearIsNinetyNineAtMost();
    bearsByNoMoreThanNerve();
    ownMemory();
    none();
  }

  private static void words() {
    says("WORDS a to p (0 to 15), each has a RHYME, a WORD (itself at first: it has none).");
    AfraidInk x = told(0);
    is("grief a=1", Due.grief(x, 0, "a=1"), 1);
    is("grief p=2", Due.grief(x, 0, "p=2"), 1);
    is("a is 0", x.fear(0, 0, 0), 1);
    is("p is 15", x.fear(0, 15, 0), 2);
    is("the sign ahead of a", Due.grief(x, 0, "`=1"), -1000);
    is("the sign behind p", Due.grief(x, 0, "q=1"), -1000);
    is("letter a", Due.letter(x, "a"), 1);
    is("letter p", Due.letter(x, "p"), 1);
    is("letter of the sign ahead of a", Due.letter(x, "`"), -1000);
    is("letter of the sign behind p", Due.letter(x, "q"), -1000);
    is("no WORD -1", x.fear(0, -1, 0), -1);
    is("no WORD 16", x.fear(0, 16, 0), -1);
    for (int w = 0; w < 16; w++) {
      is("itself at first: " + w, x.rhyme(w), w);
    }
    is("no twos", x.borne(2), 0);
  }

  private static void bottlesAndKinds() {
    says("BOTTLES 0 to 7: told or not, of a KIND (0 WIDOW, 1 DESERTER, 2 BOLD, 3 OLD, 4 MIXED)");
    AfraidInk x = new AfraidInk();
    is("BOTTLE -1", x.bottle(-1, 0), false);
    is("BOTTLE 8", x.bottle(8, 0), false);
    is("KIND -1", x.bottle(0, -1), false);
    is("KIND 5", x.bottle(0, 5), false);
    is("none is told", x.count(1), 0);
    for (int b = 0; b < 8; b++) {
      is("not told: " + b, x.bottleIs(b, 0), -1);
      is("BOTTLE " + b, x.bottle(b, b % 5), true);
      is("KIND of " + b, x.bottleIs(b, 0), b % 5);
      is("told up to " + b, x.count(1), (2 << b) - 1);
    }
  }

  private static void salt() {
    says("SALT (0 to 99; 0 at first)");
    AfraidInk x = told(0);
    is("at first", x.bottleIs(0, 1), 0);
    is("!99", Due.grief(x, 0, "!99"), 1);
    is("the greatest", x.bottleIs(0, 1), 99);
    is("!100", Due.grief(x, 0, "!100"), -2003);
    is("still 99", x.bottleIs(0, 1), 99);
    is("!0", Due.grief(x, 0, "!0"), 1);
    is("the least", x.bottleIs(0, 1), 0);
  }

  private static void dreadAndTries() {
    says("of each WORD DREAD (0 to 99; 0 at first) and TRIES (0 to 8; 0 at first)");
    AfraidInk x = told(0);
    for (int w = 0; w < 16; w++) {
      is("DREAD at first of " + w, x.fear(0, w, 0), 0);
      is("TRIES at first of " + w, x.fear(0, w, 1), 0);
    }
    is("a=99", Due.grief(x, 0, "a=99"), 1);
    is("the greatest", x.fear(0, 0, 0), 99);
    is("a=100", Due.grief(x, 0, "a=100"), -2004);
    is("still 99", x.fear(0, 0, 0), 99);
    is("a=0", Due.grief(x, 0, "a=0"), 1);
    is("the least", x.fear(0, 0, 0), 0);
    Due.letter(x, "a");
    for (int k = 1; k <= 19; k++) {
      x.days(1);
      is("TRIES behind " + k, x.fear(0, 0, 1), k % 9);
    }
  }

  private static void ink() {
    says("INK (0 to 999: for so many WORDS; 999 at first)");
    AfraidInk x = told(0);
    is("at first", x.bottleIs(0, 2), 999);
    is("-1", x.ink(0, -1), false);
    is("1000", x.ink(0, 1000), false);
    is("as it was", x.bottleIs(0, 2), 999);
    Due.letter(x, "6(8a)");
    is("for 999 WORDS", x.tried(60, 0), 999);
    is("and then there are PICTURES", x.tried(60, 1), 60 * 48 - 999);
    is("0", x.ink(0, 0), true);
    is("the least", x.bottleIs(0, 2), 0);
    is("for no WORD", x.tried(1, 0), 0);
    is("1", x.ink(0, 1), true);
    is("for one WORD", x.tried(1, 0), 1);
    is("999", x.ink(0, 999), true);
    is("the greatest", x.bottleIs(0, 2), 999);
  }

  private static void nerve() {
    says("NERVE (0 to 99; 20 at first).");
    AfraidInk x = new AfraidInk();
    is("at first", x.count(2), 20);
    is("-1", x.nerve(-1), false);
    is("100", x.nerve(100), false);
    is("as it was", x.count(2), 20);
    is("0", x.nerve(0), true);
    is("the least", x.count(2), 0);
    is("99", x.nerve(99), true);
    is("the greatest", x.count(2), 99);
  }

  private static void countsAtFirst() {
    says("PICTURES, WRITTEN (0 at first; 9999 at most). THE DAY (0 at first).");
    AfraidInk x = new AfraidInk();
    is("PICTURES at first", x.count(3), 0);
    is("WRITTEN at first", x.count(4), 0);
    is("THE DAY at first", x.count(0), 0);
    Due.letter(x, "6(8a)");
    for (int k = 0; k < 3; k++) {
      x.days(60);
    }
    x.days(28);
    Due.letter(x, "9a");
    x.days(1);
    Due.letter(x, "5a");
    x.days(1);
    is("PICTURES 9998", x.count(3), 9998);
    Due.letter(x, "a");
    x.days(1);
    is("PICTURES 9999", x.count(3), 9999);
    is("one more WORD", x.days(1), 0);
    is("PICTURES stay", x.count(3), 9999);
    x.bottle(0, 3);
    Due.letter(x, "6(8a)");
    for (int k = 0; k < 10; k++) {
      x.ink(0, 999);
      is("WRITTEN on these DAYS", x.days(21), 999);
    }
    is("WRITTEN 9990", x.count(4), 9990);
    x.ink(0, 8);
    x.days(1);
    is("WRITTEN 9998", x.count(4), 9998);
    x.ink(0, 1);
    x.days(1);
    is("WRITTEN 9999", x.count(4), 9999);
    x.ink(0, 2);
    is("two more are WRITTEN", x.days(1), 2);
    is("WRITTEN stays", x.count(4), 9999);
    is("PICTURES stay still", x.count(3), 9999);
    is("two would be WRITTEN", x.ink(0, 2) ? x.tried(1, 0) : -1, 2);
    is("46 would be PICTURES", x.tried(1, 1), 46);
  }

  private static void shrinkingByKind() {
    says("of a WIDOW its DREAD; of a DESERTER twice; of a BOLD one half, rounded down; of an OLD one 0; of a MIXED one"
        + " the mean of its DREAD of the WORD and of its RHYME, rounded up");
    AfraidInk x = told(0, 1, 2, 3, 4);
    for (int b = 0; b < 5; b++) {
      Due.grief(x, b, "a=0;b=1;c=49;d=50;e=99;f=98;a~b;c~d;e~f;g=1;h=99");
    }
    int[][] want = {{0, 1, 49, 50, 99, 98, 1, 99}, {0, 2, 98, 99, 99, 99, 2, 99}, {0, 0, 24, 25, 49, 49, 0, 49},
        {0, 0, 0, 0, 0, 0, 0, 0}, {1, 1, 50, 50, 99, 99, 1, 99}};
    for (int b = 0; b < 5; b++) {
      for (int w = 0; w < 8; w++) {
        is("KIND " + b + ", WORD " + w, x.fear(b, w, 2), want[b][w]);
      }
    }
  }

  private static void lessSalt() {
    says("less SALT, then 0 to 99.");
    AfraidInk x = told(0, 1, 2, 3, 4);
    Due.grief(x, 0, "a=5;b=6;c=7;!6");
    is("5 less 6", x.fear(0, 0, 2), 0);
    is("6 less 6", x.fear(0, 1, 2), 0);
    is("7 less 6", x.fear(0, 2, 2), 1);
    Due.grief(x, 1, "a=99;b=98;c=50;d=49;!99");
    is("198 less 99", x.fear(1, 0, 2), 99);
    is("196 less 99", x.fear(1, 1, 2), 97);
    is("100 less 99", x.fear(1, 2, 2), 1);
    is("98 less 99", x.fear(1, 3, 2), 0);
    Due.grief(x, 1, "!98");
    is("198 less 98 is 99 at most", x.fear(1, 0, 2), 99);
    Due.grief(x, 1, "!0");
    is("198 less 0 is 99 at most", x.fear(1, 0, 2), 99);
    Due.grief(x, 2, "a=99;!1");
    is("half of 99, rounded down, less 1", x.fear(2, 0, 2), 48);
    Due.grief(x, 3, "a=99;!99");
    is("0 less 99", x.fear(3, 0, 2), 0);
    Due.grief(x, 4, "a=3;b=0;a~b;!1");
    is("the mean of 3 and 0, rounded up, less 1", x.fear(4, 0, 2), 1);
  }

  private static void fearIsNinetyNineAtMost() {
    says("FEAR: that and what THE LAW adds, 99 at most.");
    AfraidInk x = told(0, 0);
    Due.grief(x, 0, "a=60");
    Due.grief(x, 1, "a=59");
    Due.letter(x, "a");
    x.nerve(99);
    Due.law(x, "f39(b=0);f99(b=1)");
    is("60 and 39, 59 and 99: like ones", x.tried(1, 100), 998);
    is("99 is no more than NERVE", x.tried(1, 0), 1);
    Due.law(x, "f40(b=0);f39(b=1)");
    is("99 and 98: the second", x.tried(1, 101), 998);
    Due.law(x, "f40(b=0);x(b=1)");
    is("60 and 40 go down by NERVE 99", x.tried(1, 0), 1);
    x.nerve(98);
    is("and bead up by NERVE 98", x.tried(1, 1), 1);
    Due.law(x, "f38(b=0);x(b=1)");
    is("60 and 38 go down by NERVE 98", x.tried(1, 0), 1);
  }

  private static void bearsByNoMoreThanNerve() {
    says("A BOTTLE BEARS a WORD if SHRINKING (THE LAW aside) is no more than NERVE.");
    AfraidInk x = told(0);
    Due.grief(x, 0, "a=20;b=21;c=99");
    Due.law(x, "f99(b=0);x(b=0)");
    is("NERVE 20", x.bottleIs(0, 3), 65535 - 2 - 4);
    x.nerve(21);
    is("NERVE 21", x.bottleIs(0, 3), 65535 - 4);
    x.nerve(98);
    is("NERVE 98", x.bottleIs(0, 3), 65535 - 4);
    x.nerve(99);
    is("NERVE 99", x.bottleIs(0, 3), 65535);
    x.nerve(0);
    is("NERVE 0", x.bottleIs(0, 3), 65535 - 1 - 2 - 4);
  }

  private static void ownMemory() {
    says("All memory is the chancery's own.");
    AfraidInk x = told(0);
    AfraidInk y = new AfraidInk();
    Due.grief(x, 0, "a=30;a~b;!9");
    Due.letter(x, "ab");
    Due.law(x, "x(b=0)");
    x.nerve(33);
    x.keep();
    x.days(3);
    x.feed(1, 2, 3, 4, 5);
    int[] first = {0, 0, 20, 0, 0, 0, 0, 1, 0};
    for (int what = 0; what < first.length; what++) {
      is("another one's count(" + what + ")", y.count(what), first[what]);
    }
    is("another one's RHYME", y.rhyme(0), 0);
    is("nothing of another one was KEPT", y.undo(), false);
    is("another one's BOTTLE", y.bottle(0, 0), true);
    is("its DREAD", y.bottleIs(0, 4), 0);
    is("the first one's", x.bottleIs(0, 4), 30);
  }

  private static void none() {
    says("The constants: `NONE = -1`: There is none.");
    is("NONE", AfraidInk.NONE, -1);
  }
}

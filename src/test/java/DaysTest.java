/** Promises 10, 11, 15: days, tried, used. */
public final class DaysTest {
  private static final Due due = new Due("DaysTest");

  public static void main(String[] args) {
    wrongNumbers();
    draws();
    whoIsTried();
    inkEnds();
    gettingUsed();
    usedIsFeltInRhyme();
    tried();
    used();
    countsEnd();
    dayEnds();
    due.end();
  }

  private static void wrongNumbers() {
    AfraidInk x = new AfraidInk();
    x.bottle(0, 0);
    due.is("days(0)", x.days(0), -1);
    due.is("days(61)", x.days(61), -1);
    due.is("days(-1)", x.days(-1), -1);
    due.is("THE DAY", x.count(0), 0);
    due.is("tried(0, 0)", x.tried(0, 0), -1);
    due.is("tried(61, 0)", x.tried(61, 0), -1);
    int[] wrong = {-1, 3, 99, 101, 107, 108, 199, 201, 207, 208, 300, Integer.MAX_VALUE, Integer.MIN_VALUE};
    for (int what : wrong) {
      due.is("tried(1, " + what + ")", x.tried(1, what), -1);
    }
    due.is("tried(1, 100)", x.tried(1, 100), 999);
    due.is("tried(60, 200)", x.tried(60, 200), 0);
    due.is("used(0, 0, 0)", x.used(0, 0, 0), -1);
    due.is("used(0, 0, 61)", x.used(0, 0, 61), -1);
    due.is("used(0, -1, 1)", x.used(0, -1, 1), -1);
    due.is("used(0, 16, 1)", x.used(0, 16, 1), -1);
    due.is("used(1, 0, 1)", x.used(1, 0, 1), -1);
    due.is("used(8, 0, 1)", x.used(8, 0, 1), -1);
  }

  private static void draws() {
    AfraidInk x = new AfraidInk();
    due.is("a DAY without a LETTER", x.days(1), 0);
    due.is("THE DAY", x.count(0), 1);
    due.is("no DRAW", x.count(7), 1);
    Due.letter(x, "ab");
    due.is("no BOTTLES", x.days(1), 0);
    due.is("two PICTURES", x.count(3), 2);
    due.is("two DRAWS", x.count(7), 61087);
    x.seed(65535);
    Due.letter(x, "a");
    x.days(1);
    due.is("X behind 65535", x.count(7), (int) ((25173L * 65535 + 13849) % 65536));
  }

  private static void whoIsTried() {
    AfraidInk x = new AfraidInk();
    x.bottle(2, 0);
    x.bottle(4, 0);
    x.bottle(6, 0);
    Due.letter(x, "a");
    due.is("of like ones the lowest", x.tried(1, 102), 998);
    Due.grief(x, 2, "a=5");
    due.is("the one of least FEAR", x.tried(1, 104), 998);
    Due.grief(x, 4, "a=5");
    due.is("the last", x.tried(1, 106), 998);
    Due.grief(x, 6, "a=6");
    due.is("the lowest again", x.tried(1, 102), 998);
    due.is("one is WRITTEN", x.days(1), 1);
    due.is("INK is one less", x.bottleIs(2, 2), 998);
    due.is("TRIES are one more", x.fear(2, 0, 1), 1);
    due.is("the others'", x.fear(4, 0, 1), 0);
    due.is("WRITTEN", x.count(4), 1);
    x.nerve(5);
    due.is("FEAR as NERVE goes down", x.days(1), 1);
    x.nerve(4);
    due.is("FEAR above NERVE beads up", x.days(1), 0);
    due.is("PICTURES", x.count(3), 1);
    due.is("INK goes even so", x.bottleIs(2, 2), 996);
    due.is("THE DAY", x.count(0), 3);
  }

  private static void inkEnds() {
    AfraidInk x = new AfraidInk();
    x.bottle(0, 0);
    x.bottle(1, 2);
    x.ink(0, 2);
    x.ink(1, 1);
    Due.letter(x, "5a");
    due.is("as much as there is INK", x.days(1), 3);
    due.is("PICTURES without a BOTTLE", x.count(3), 2);
    due.is("INK of 0", x.bottleIs(0, 2), 0);
    due.is("INK of 1", x.bottleIs(1, 2), 0);
    due.is("TRIES of 0", x.fear(0, 0, 1), 2);
    due.is("TRIES of 1", x.fear(1, 0, 1), 1);
  }

  private static void gettingUsed() {
    AfraidInk x = new AfraidInk();
    x.bottle(0, 0);
    Due.grief(x, 0, "a=50;b=95;a~b;c=10");
    Due.letter(x, "8a");
    due.is("eight bead up", x.days(1), 0);
    due.is("8 TRIES", x.fear(0, 0, 1), 8);
    due.is("DREAD stays", x.fear(0, 0, 0), 50);
    Due.letter(x, "a");
    due.is("the ninth is by the FEAR ahead", x.days(1), 0);
    due.is("TRIES", x.fear(0, 0, 1), 0);
    due.is("DREAD", x.fear(0, 0, 0), 0);
    due.is("DREAD of the RHYME, 99 at most", x.fear(0, 1, 0), 99);
    due.is("PICTURES", x.count(3), 9);
    due.is("the tenth goes down", x.days(1), 1);
    Due.letter(x, "9c");
    x.days(1);
    due.is("USED without a RHYME", x.bottleIs(0, 4), 99);
    due.is("TRIES of c", x.fear(0, 2, 1), 0);
    due.is("TRIES of a", x.fear(0, 0, 1), 1);
  }

  private static void usedIsFeltInRhyme() {
    AfraidInk x = new AfraidInk();
    x.bottle(0, 4);
    Due.grief(x, 0, "a~b");
    x.nerve(4);
    Due.letter(x, "9a3b");
    due.is("nine a, then b of MIXED shrinks by 5", x.tried(1, 0), 9);
    due.is("beads up", x.tried(1, 1), 3);
    x.nerve(5);
    due.is("all", x.tried(1, 0), 12);
    due.is("DREAD then", x.tried(1, 200), 9);
    due.is("nothing is changed", x.bottleIs(0, 4) + x.count(0) + x.count(3) + x.count(4), 0);
  }

  private static void tried() {
    AfraidInk x = new AfraidInk();
    x.bottle(0, 0);
    x.bottle(3, 1);
    Due.grief(x, 0, "a=30;b=8;a~b");
    Due.grief(x, 3, "a=40");
    Due.letter(x, "2ab");
    due.is("tried(3, 0)", x.tried(3, 0), 3);
    due.is("tried(3, 1)", x.tried(3, 1), 6);
    due.is("tried(4, 2)", x.tried(4, 2), 0);
    due.is("tried(5, 2)", x.tried(5, 2), 1);
    due.is("tried(5, 2) again", x.tried(5, 2), 1);
    due.is("tried(5, 200)", x.tried(5, 200), 17);
    due.is("tried(5, 100)", x.tried(5, 100), 989);
    due.is("tried(5, 103)", x.tried(5, 103), 994);
    due.is("tried(5, 203)", x.tried(5, 203), 40);
    due.is("X stays", x.count(7), 1);
    due.is("THE DAY stays", x.count(0), 0);
    int ahead = x.tried(7, 0);
    due.is("what was tried comes", x.days(7), ahead);
    due.is("THE DAY goes on", x.count(0), 7);
  }

  private static void used() {
    AfraidInk x = new AfraidInk();
    x.bottle(0, 0);
    Due.grief(x, 0, "a=30");
    Due.letter(x, "2a");
    due.is("it BEARS b", x.used(0, 1, 1), 0);
    due.is("it BEARS p", x.used(0, 15, 60), 0);
    due.is("not in 4 DAYS", x.used(0, 0, 4), -2);
    due.is("in 5", x.used(0, 0, 5), 5);
    due.is("in 60", x.used(0, 0, 60), 5);
    due.is("nothing is changed", x.fear(0, 0, 1), 0);
    Due.law(x, "f99(w=1)");
    due.is("THE LAW aside", x.used(0, 1, 1), 0);
    x.ink(0, 8);
    due.is("INK ends", x.used(0, 0, 60), -2);
    x.ink(0, 9);
    due.is("just enough INK", x.used(0, 0, 60), 5);
  }

  private static void countsEnd() {
    AfraidInk x = new AfraidInk();
    Due.letter(x, "6(8a)");
    for (int k = 0; k < 3; k++) {
      x.days(60);
    }
    due.is("PICTURES", x.count(3), 8640);
    due.is("DAYS without BOTTLES", x.days(60), 0);
    due.is("PICTURES, 9999 at most", x.count(3), 9999);
    due.is("those of the tried DAYS", x.tried(60, 1), 2880);
    x.nerve(99);
    for (int k = 0; k < 12; k++) {
      x.bottle(0, 3);
      due.is("WRITTEN while INK lasts", x.days(60), 999);
    }
    due.is("WRITTEN, 9999 at most", x.count(4), 9999);
    due.is("PICTURES stay", x.count(3), 9999);
  }

  private static void dayEnds() {
    AfraidInk x = new AfraidInk();
    x.bottle(0, 0);
    for (int k = 0; k < 166; k++) {
      x.days(60);
    }
    due.is("THE DAY", x.count(0), 9960);
    x.days(38);
    Due.grief(x, 0, "a=30");
    Due.letter(x, "9a");
    due.is("one DAY is left: tried", x.tried(60, 1), 9);
    due.is("one DAY is left: used", x.used(0, 0, 60), 1);
    Due.letter(x, "5a");
    due.is("not in the one that is left", x.used(0, 0, 60), -2);
    due.is("tried", x.tried(2, 1), 5);
    due.is("as many as can", x.days(60), 0);
    due.is("THE DAY, 9999 at most", x.count(0), 9999);
    due.is("PICTURES of one DAY", x.count(3), 5);
    int before = x.count(7);
    due.is("none goes by", x.days(1), 0);
    due.is("no DRAW", x.count(7), before);
    due.is("none is tried", x.tried(60, 1), 0);
    due.is("INK then", x.tried(60, 100), 994);
  }
}

/** Promises 27 to 31: seed, keep, undo, check, count. */
public final class KeepTest {
  private static final Due due = new Due("KeepTest");

  public static void main(String[] args) {
    seed();
    keepAndUndo();
    check();
    count();
    due.end();
  }

  private static void seed() {
    AfraidInk x = new AfraidInk();
    due.is("seed(-1)", x.seed(-1), false);
    due.is("seed(65536)", x.seed(65536), false);
    due.is("X stays", x.count(7), 1);
    due.is("seed(65535)", x.seed(65535), true);
    due.is("X 65535", x.count(7), 65535);
    due.is("seed(0)", x.seed(0), true);
    due.is("X 0", x.count(7), 0);
    Due.letter(x, "a");
    x.days(1);
    due.is("X behind 0", x.count(7), 13849);
  }

  private static void keepAndUndo() {
    AfraidInk x = new AfraidInk();
    due.is("none was KEPT", x.undo(), false);
    x.bottle(0, 0);
    Due.grief(x, 0, "a=30;!4;a~b");
    Due.letter(x, "ab");
    Due.law(x, "f1(b=0)");
    x.nerve(25);
    x.ink(0, 500);
    x.days(3);
    due.is("keep()", x.keep(), 3);
    int kept = x.count(7);
    x.days(20);
    x.bottle(1, 1);
    x.nerve(5);
    x.seed(9);
    Due.grief(x, 0, "a=1;!9;#2;c~d");
    Due.letter(x, "abc");
    Due.law(x, "f1(b=0);x(b=1)");
    x.feed(1, 2, 3, 4, 5);
    due.is("undo()", x.undo(), true);
    int[] counts = {3, 1, 25, 3, 3, 2, 20, kept, 3};
    for (int what = 0; what < counts.length; what++) {
      due.is("UNDONE: count(" + what + ")", x.count(what), counts[what]);
    }
    due.is("UNDONE: KIND", x.bottleIs(0, 0), 0);
    due.is("UNDONE: SALT", x.bottleIs(0, 1), 4);
    due.is("UNDONE: INK", x.bottleIs(0, 2), 494);
    due.is("UNDONE: DREAD", x.fear(0, 0, 0), 30);
    due.is("UNDONE: TRIES", x.fear(0, 0, 1), 3);
    due.is("UNDONE: a BOTTLE that was not told", x.bottleIs(1, 0), -1);
    due.is("RHYMES are not KEPT", x.rhyme(2), 3);
    x.bottle(0, 3);
    due.is("undo() again", x.undo(), true);
    due.is("as it was KEPT last", x.bottleIs(0, 4), 30);
    x.days(1);
    due.is("keep() anew", x.keep(), 4);
    x.days(1);
    x.undo();
    due.is("the last one", x.count(0), 4);
    AfraidInk y = new AfraidInk();
    due.is("keep() at first", y.keep(), 0);
    y.bottle(0, 0);
    y.nerve(1);
    due.is("undo() to the first", y.undo(), true);
    due.is("no BOTTLES", y.count(1), 0);
    due.is("NERVE 20", y.count(2), 20);
  }

  private static int check(AfraidInk x, int... bytes) {
    Due.feed(x, bytes);
    int answer = x.check(bytes.length);
    due.is("check empties the tape", x.count(6), 0);
    return answer;
  }

  private static void check() {
    AfraidInk x = new AfraidInk();
    x.bottle(0, 0);
    x.bottle(2, 0);
    x.bottle(7, 0);
    Due.grief(x, 2, "!99");
    Due.grief(x, 7, "!7");
    due.is("right", check(x, 0, 255, 99, 255, 255, 255, 255, 7), -1);
    due.is("none asked", check(x), -1);
    due.is("wrong at 0", check(x, 1, 254), 0);
    due.is("wrong at 1", check(x, 0, 0, 99), 1);
    due.is("wrong at 2, the first", check(x, 0, 255, 255, 0), 2);
    due.is("wrong at 7", check(x, 0, 255, 99, 255, 255, 255, 255, 8), 7);
    x.feed(0, 0, 0, 0, 0);
    due.is("check(0)", x.check(0), -1);
    due.is("empty then", x.count(6), 0);
    due.is("check(1) of none", x.check(1), -2);
    x.feed(0, 0, 0, 0, 0);
    due.is("check(-1)", x.check(-1), -2);
    due.is("check(9)", x.check(9), -2);
    due.is("the tape stays", x.count(6), 20);
    due.is("SALT 255 of a BOTTLE that is told", check(new AfraidInk(), 255, 255), -1);
  }

  private static void count() {
    AfraidInk x = new AfraidInk();
    x.bottle(0, 1);
    x.bottle(7, 1);
    Due.grief(x, 0, "b=50");
    Due.grief(x, 7, "b=50");
    Due.letter(x, "ab");
    Due.law(x, "f1(b=0);f2(b=1)");
    x.nerve(33);
    x.days(4);
    x.feed(0, 0, 0, 0, 0);
    x.seed(77);
    int[] want = {4, 129, 33, 4, 4, 2, 20, 77, 2};
    for (int what = 0; what < want.length; what++) {
      due.is("count(" + what + ")", x.count(what), want[what]);
    }
    due.is("count(-1)", x.count(-1), -1);
    due.is("count(9)", x.count(9), -1);
    due.is("count(MIN)", x.count(Integer.MIN_VALUE), -1);
    due.is("count(MAX)", x.count(Integer.MAX_VALUE), -1);
  }
}

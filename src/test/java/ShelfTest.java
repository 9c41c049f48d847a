/** Promises 1 to 5, 12, 13: a new object, bottle, ink, nerve, pressed, bottleIs, fear. */
public final class ShelfTest {
  private static final Due due = new Due("ShelfTest");

  public static void main(String[] args) {
    newObject();
    bottle();
    ink();
    nerve();
    pressed();
    bottleIs();
    fear();
    shrinkingOfKinds();
    due.end();
  }

  private static void newObject() {
    AfraidInk x = new AfraidInk();
    int[] counts = {0, 0, 20, 0, 0, 0, 0, 1, 0};
    for (int what = 0; what < counts.length; what++) {
      due.is("new: count(" + what + ")", x.count(what), counts[what]);
    }
    for (int b = 0; b < 8; b++) {
      due.is("new: bottleIs(" + b + ", 0)", x.bottleIs(b, 0), -1);
    }
    for (int w = 0; w < 16; w++) {
      due.is("new: rhyme(" + w + ")", x.rhyme(w), w);
    }
    due.is("new: undo()", x.undo(), false);
    due.is("NONE", AfraidInk.NONE, -1);
  }

  private static void bottle() {
    AfraidInk x = new AfraidInk();
    due.is("bottle(-1, 0)", x.bottle(-1, 0), false);
    due.is("bottle(8, 0)", x.bottle(8, 0), false);
    due.is("bottle(0, -1)", x.bottle(0, -1), false);
    due.is("bottle(0, 5)", x.bottle(0, 5), false);
    due.is("bottle(MIN, MIN)", x.bottle(Integer.MIN_VALUE, Integer.MIN_VALUE), false);
    due.is("refused: told", x.count(1), 0);
    due.is("bottle(0, 0)", x.bottle(0, 0), true);
    due.is("bottle(7, 4)", x.bottle(7, 4), true);
    due.is("told", x.count(1), 129);
    Due.grief(x, 7, "a=33;b~c;!5");
    x.ink(7, 3);
    Due.letter(x, "d");
    x.ink(0, 0);
    x.days(1);
    due.is("TRIES ahead", x.fear(7, 3, 1), 1);
    due.is("bottle(7, 2) in place", x.bottle(7, 2), true);
    int[] first = {2, 0, 999, 65535, 0};
    for (int what = 0; what < first.length; what++) {
      due.is("in place: bottleIs(7, " + what + ")", x.bottleIs(7, what), first[what]);
    }
    due.is("in place: DREAD", x.fear(7, 0, 0), 0);
    due.is("in place: TRIES", x.fear(7, 3, 1), 0);
    due.is("in place: RHYMES stay", x.rhyme(1), 2);
    due.is("in place: other one stays", x.bottleIs(0, 2), 0);
  }

  private static void ink() {
    AfraidInk x = new AfraidInk();
    due.is("ink of none told", x.ink(3, 5), false);
    x.bottle(3, 0);
    due.is("ink(3, -1)", x.ink(3, -1), false);
    due.is("ink(3, 1000)", x.ink(3, 1000), false);
    due.is("ink(-1, 5)", x.ink(-1, 5), false);
    due.is("ink(8, 5)", x.ink(8, 5), false);
    due.is("ink(35, 5)", x.ink(35, 5), false);
    due.is("refused: INK", x.bottleIs(3, 2), 999);
    due.is("ink(3, 0)", x.ink(3, 0), true);
    due.is("INK 0", x.bottleIs(3, 2), 0);
    due.is("ink(3, 999)", x.ink(3, 999), true);
    due.is("INK 999", x.bottleIs(3, 2), 999);
  }

  private static void nerve() {
    AfraidInk x = new AfraidInk();
    due.is("nerve(-1)", x.nerve(-1), false);
    due.is("nerve(100)", x.nerve(100), false);
    due.is("refused: NERVE", x.count(2), 20);
    due.is("nerve(0)", x.nerve(0), true);
    due.is("NERVE 0", x.count(2), 0);
    due.is("nerve(99)", x.nerve(99), true);
    due.is("NERVE 99", x.count(2), 99);
  }

  private static void pressed() {
    AfraidInk x = new AfraidInk();
    due.is("pressed of none told", x.pressed(1, 1), -1);
    x.bottle(1, 1);
    due.is("pressed(1, -1)", x.pressed(1, -1), -1);
    due.is("pressed(1, 65536)", x.pressed(1, 65536), -1);
    due.is("pressed(8, 1)", x.pressed(8, 1), -1);
    Due.grief(x, 1, "!7");
    x.ink(1, 5);
    Due.letter(x, "a");
    x.days(1);
    int[] dread = new int[16];
    int sum = pressedRow(1, dread);
    due.is("first two DRAWS of seed 1", dread[0], 27);
    int ahead = x.count(7);
    due.is("pressed(1, 1)", x.pressed(1, 1), sum);
    for (int w = 0; w < 16; w++) {
      due.is("pressed: DREAD of " + w, x.fear(1, w, 0), dread[w]);
      due.is("pressed: TRIES of " + w, x.fear(1, w, 1), 0);
    }
    due.is("pressed: X stays", x.count(7), ahead);
    due.is("pressed: KIND stays", x.bottleIs(1, 0), 1);
    due.is("pressed: SALT", x.bottleIs(1, 1), 0);
    due.is("pressed: INK", x.bottleIs(1, 2), 999);
    due.is("pressed(1, 0)", x.pressed(1, 0), pressedRow(0, dread));
    due.is("pressed(1, 65535)", x.pressed(1, 65535), pressedRow(65535, dread));
  }

  private static int pressedRow(long seed, int[] dread) {
    long own = seed;
    int sum = 0;
    for (int w = 0; w < 16; w++) {
      own = (25173 * own + 13849) % 65536;
      dread[w] = (int) (10 * (own % 10));
      own = (25173 * own + 13849) % 65536;
      dread[w] += (int) (own % 10);
      sum += dread[w];
    }
    return sum;
  }

  private static void bottleIs() {
    AfraidInk x = new AfraidInk();
    x.bottle(5, 1);
    Due.grief(x, 5, "a=11;p=10;!1");
    int[] want = {1, 1, 999, 65534, 21};
    for (int what = 0; what < want.length; what++) {
      due.is("bottleIs(5, " + what + ")", x.bottleIs(5, what), want[what]);
    }
    due.is("bottleIs(5, -1)", x.bottleIs(5, -1), -1);
    due.is("bottleIs(5, 5)", x.bottleIs(5, 5), -1);
    due.is("bottleIs(4, 0)", x.bottleIs(4, 0), -1);
    due.is("bottleIs(-1, 0)", x.bottleIs(-1, 0), -1);
    due.is("bottleIs(37, 0)", x.bottleIs(37, 0), -1);
  }

  private static void fear() {
    AfraidInk x = new AfraidInk();
    due.is("fear of none told", x.fear(0, 0, 0), -1);
    x.bottle(0, 0);
    Due.grief(x, 0, "p=99;!9");
    due.is("fear(0, 15, 0)", x.fear(0, 15, 0), 99);
    due.is("fear(0, 15, 1)", x.fear(0, 15, 1), 0);
    due.is("fear(0, 15, 2)", x.fear(0, 15, 2), 90);
    due.is("fear(0, 16, 0)", x.fear(0, 16, 0), -1);
    due.is("fear(0, -1, 0)", x.fear(0, -1, 0), -1);
    due.is("fear(0, 0, 3)", x.fear(0, 0, 3), -1);
    due.is("fear(0, 0, -1)", x.fear(0, 0, -1), -1);
    due.is("fear(8, 0, 0)", x.fear(8, 0, 0), -1);
  }

  private static void shrinkingOfKinds() {
    AfraidInk x = new AfraidInk();
    for (int kind = 0; kind <= 4; kind++) {
      x.bottle(kind, kind);
      Due.grief(x, kind, "a=61;b=8;c=99;a~b;d=50;e=40;f=30;e~f");
    }
    int[][] want = {{61, 8, 99, 50, 40, 30}, {99, 16, 99, 99, 80, 60}, {30, 4, 49, 25, 20, 15}, {0, 0, 0, 0, 0, 0},
        {35, 35, 99, 50, 35, 35}};
    for (int kind = 0; kind <= 4; kind++) {
      for (int w = 0; w < 6; w++) {
        due.is("SHRINKING of KIND " + kind + " from " + w, x.fear(kind, w, 2), want[kind][w]);
      }
    }
    Due.grief(x, 1, "!99");
    due.is("twice 99 less 99", x.fear(1, 2, 2), 99);
    due.is("twice 61 less 99", x.fear(1, 0, 2), 23);
    due.is("no less than 0", x.fear(1, 1, 2), 0);
    x.nerve(35);
    due.is("BEARS by no more than NERVE", x.bottleIs(4, 3), 65535 - 4 - 8);
    x.nerve(34);
    due.is("does not BEAR above NERVE", x.bottleIs(4, 3), 65535 - 7 - 8 - 16 - 32);
  }
}

/** Promises 19 to 23: whose, next, guard, training, borne. */
public final class AskTest {
  private static final Due due = new Due("AskTest");

  public static void main(String[] args) {
    whose();
    next();
    guard();
    guardOfEight();
    training();
    trainingOfRhymes();
    trainingOfManyRows();
    borne();
    due.end();
  }

  private static AfraidInk threeBottles() {
    AfraidInk x = new AfraidInk();
    x.bottle(0, 0);
    x.bottle(3, 0);
    x.bottle(7, 0);
    Due.grief(x, 0, "a=21;b=21");
    Due.grief(x, 3, "b=21;p=21");
    Due.grief(x, 7, "a=20;p=99");
    return x;
  }

  private static int whose(AfraidInk x, int... bytes) {
    Due.feed(x, bytes);
    int answer = x.whose(bytes.length / 2);
    due.is("whose empties the tape", x.count(6), 0);
    return answer;
  }

  private static void whose() {
    AfraidInk x = threeBottles();
    due.is("a went down", whose(x, 0, 1), 8 + 128);
    due.is("a did not", whose(x, 0, 0), 1);
    due.is("a down, b not", whose(x, 0, 1, 1, 0), 8);
    due.is("p not, b down", whose(x, 15, 0, 1, 1), 128);
    due.is("of none", whose(x, 0, 1, 0, 0), 0);
    due.is("c not", whose(x, 2, 0), 0);
    due.is("c down", whose(x, 2, 1), 137);
    due.is("twelve", whose(x, 2, 1, 2, 1, 2, 1, 2, 1, 2, 1, 2, 1, 2, 1, 2, 1, 2, 1, 2, 1, 2, 1, 0, 0), 1);
    due.is("a WORD of 16", whose(x, 0, 1, 16, 1), -3);
    due.is("a WORD of 255", whose(x, 255, 1), -3);
    due.is("neither 0 nor 1", whose(x, 0, 2), -3);
    due.is("neither, at last", whose(x, 0, 1, 0, 255), -3);
    due.is("no BOTTLES", whose(new AfraidInk(), 0, 1), 0);
    Due.feed(x, 0, 1);
    due.is("whose(11) of 20 bytes", x.whose(11), -1);
    due.is("whose(10) of 20 bytes", x.whose(10), 0);
    Due.feed(x, new int[40]);
    due.is("whose(13) of 40 bytes", x.whose(13), -1);
    due.is("40 bytes stay", x.count(6), 40);
    due.is("whose(12) of 40 bytes: a did not", x.whose(12), 1);
    Due.feed(x, 0, 1);
    due.is("whose(0)", x.whose(0), -1);
    due.is("whose(13)", x.whose(13), -1);
    due.is("the tape stays", x.count(6), 20);
  }

  private static void next() {
    AfraidInk x = threeBottles();
    due.is("next of all", x.next(137, 0), 0);
    due.is("how great", x.next(137, 1), 2);
    due.is("next of 3 and 7", x.next(136, 0), 1);
    due.is("how great", x.next(136, 1), 1);
    due.is("next of 0 and 3", x.next(9, 0), 0);
    due.is("next of one", x.next(8, 0), 0);
    due.is("how great of one", x.next(8, 1), 1);
    AfraidInk y = new AfraidInk();
    for (int b = 0; b < 8; b++) {
      y.bottle(b, 3);
    }
    due.is("eight alike", y.next(255, 0), 0);
    due.is("how great of eight", y.next(255, 1), 8);
    Due.grief(y, 0, "#0;p=99");
    due.is("only p parts them", y.next(255, 0), 15);
    due.is("seven and one", y.next(255, 1), 7);
    due.is("none", x.next(0, 0), -1);
    due.is("one that is not told", x.next(139, 0), -1);
    due.is("bit 8", x.next(256, 0), -1);
    due.is("bits of all", x.next(-1, 0), -1);
    due.is("what 2", x.next(137, 2), -1);
    due.is("what -1", x.next(137, -1), -1);
  }

  private static void guard() {
    AfraidInk x = new AfraidInk();
    due.is("no BOTTLES: how many", x.guard(0), 0);
    due.is("no BOTTLES: which", x.guard(1), 0);
    due.is("what 2", x.guard(2), -1);
    due.is("what -1", x.guard(-1), -1);
    x.bottle(5, 0);
    due.is("one BOTTLE: how many", x.guard(0), 0);
    due.is("one BOTTLE: which", x.guard(1), 0);
    x.bottle(6, 3);
    due.is("two BEAR alike: how many", x.guard(0), -2);
    due.is("two BEAR alike: which", x.guard(1), -2);
    Due.grief(x, 5, "p=21");
    due.is("known by p: how many", x.guard(0), 1);
    due.is("known by p: which", x.guard(1), 32768);
    x = threeBottles();
    due.is("three: how many", x.guard(0), 2);
    due.is("three: which", x.guard(1), 3);
    Due.grief(x, 0, "e=21;f=21");
    Due.grief(x, 3, "f=21;g=21");
    due.is("of like ones the least bits", x.guard(1), 3);
    Due.grief(x, 3, "b=0");
    due.is("then a and p, or e and f ..", x.guard(1), 1 + 32);
  }

  /** Each BOTTLE but the last shrinks from a WORD of its own: seven WORDS are needed. */
  private static void guardOfEight() {
    AfraidInk x = new AfraidInk();
    for (int b = 0; b < 8; b++) {
      x.bottle(b, 0);
      if (b < 7) {
        Due.grief(x, b, (char) ('j' + b) + "=50");
      }
    }
    due.is("seven", x.guard(0), 7);
    due.is("which seven", x.guard(1), 127 << 9);
    for (int b = 0; b < 8; b++) {
      Due.grief(x, b, "n=" + (b & 1) * 30 + ";o=" + (b & 2) * 15 + ";p=" + (b & 4) * 10);
    }
    due.is("three", x.guard(0), 3);
    due.is("which three", x.guard(1), 7 << 13);
  }

  private static int training(AfraidInk x, int b, int what, int... words) {
    Due.feed(x, words);
    int answer = x.training(b, words.length, what);
    due.is("training empties the tape", x.count(6), 0);
    return answer;
  }

  private static void training() {
    AfraidInk x = new AfraidInk();
    x.bottle(1, 0);
    Due.grief(x, 1, "a=50;c=50;p=50;b=20");
    due.is("of b: none needed", training(x, 1, 0, 1), 0);
    due.is("of b: the first", training(x, 1, 1, 1), -2);
    due.is("of a", training(x, 1, 0, 0), 9);
    due.is("of a: the first", training(x, 1, 1, 0), 0);
    due.is("of p, c, a", training(x, 1, 0, 15, 2, 0), 27);
    due.is("of p, c: the first", training(x, 1, 1, 15, 2), 2);
    due.is("six", training(x, 1, 0, 15, 2, 0, 1, 3, 4), 27);
    due.is("a WORD of 16", training(x, 1, 0, 16), -3);
    due.is("one twice", training(x, 1, 0, 3, 4, 3), -3);
    Due.letter(x, "5a");
    x.days(1);
    due.is("TRIES that are missing", training(x, 1, 0, 0, 15), 13);
    due.is("TRIES stay", x.fear(1, 0, 1), 5);
    due.is("DREAD stays", x.fear(1, 0, 0), 50);
    x.ink(1, 0);
    due.is("INK aside", training(x, 1, 0, 0), 4);
    Due.feed(x, 0);
    due.is("none told", x.training(0, 1, 0), -1);
    due.is("what 2", x.training(1, 1, 2), -1);
    due.is("what -1", x.training(1, 1, -1), -1);
    due.is("n 0", x.training(1, 0, 0), -1);
    due.is("n 7", x.training(1, 7, 0), -1);
    due.is("the tape stays", x.count(6), 20);
  }

  private static void trainingOfRhymes() {
    AfraidInk x = new AfraidInk();
    x.bottle(0, 0);
    x.nerve(8);
    Due.grief(x, 0, "a=9;b=0;a~b");
    due.is("the RHYME grows by 9: it can't be", training(x, 0, 0, 0, 1), -4);
    due.is("nor is there a first", training(x, 0, 1, 0, 1), -4);
    due.is("a alone", training(x, 0, 0, 0), 9);
    x.nerve(9);
    Due.grief(x, 0, "a=10;b=1");
    // a then b: a has 9, b 0; b alone would be 10 by a.
    due.is("a, then b", training(x, 0, 0, 0, 1), 18);
    due.is("a first of like rows", training(x, 0, 1, 0, 1), 0);
    Due.grief(x, 0, "a=99;b=99;c=99");
    due.is("both", training(x, 0, 0, 1, 0), 18);
    due.is("the least row", training(x, 0, 1, 1, 0), 0);
    x.bottle(0, 4);
    x.nerve(20);
    Due.grief(x, 0, "a=30;b=40;c=21;d=20;c~d");
    // MIXED without being USED: 35; b USED: (30 + 9) / 2 up is 20; a USED: (40 + 9) / 2 up is 25.
    due.is("of MIXED ones b is enough", training(x, 0, 0, 0, 1), 9);
    due.is("b", training(x, 0, 1, 0, 1), 1);
    due.is("of a alone, b is not among them", training(x, 0, 0, 0), -4);
    due.is("c by the mean, rounded up", training(x, 0, 0, 2), 9);
    Due.letter(x, "7e");
    Due.grief(x, 0, "e=99;f=99;e~f");
    x.days(1);
    Due.letter(x, "2f");
    x.days(1);
    due.is("by TRIES that are missing", training(x, 0, 0, 4, 5), 9);
  }

  /** The first rows that are tried go wrong, or cost more: what they did must be undone for the next ones. */
  private static void trainingOfManyRows() {
    AfraidInk x = new AfraidInk();
    x.bottle(0, 0);
    x.nerve(50);
    Due.grief(x, 0, "a=45;b=60;a~b;c=60;d=0;c~d");
    // a has 45: b makes it 54, above NERVE, and then a must be USED, too, which makes b 9.
    due.is("b, then a", training(x, 0, 0, 0, 1), 18);
    due.is("a, then b, is the least row", training(x, 0, 1, 0, 1), 0);
    due.is("with c and d", training(x, 0, 0, 3, 2, 1, 0), 27);
    due.is("with c and d: the first", training(x, 0, 1, 3, 2, 1, 0), 0);
    Due.grief(x, 0, "a=10");
    due.is("b alone", training(x, 0, 0, 0, 1), 9);
    due.is("b alone: the first", training(x, 0, 1, 0, 1), 1);
    x.bottle(0, 4);
    x.nerve(30);
    Due.grief(x, 0, "e=70;f=40;e~f;g=80;h=20;g~h");
    // MIXED e and f: 55; e USED: (0 + 49) / 2 is 25; f USED: (79 + 0) / 2 is 40.
    due.is("e", training(x, 0, 0, 5, 4), 9);
    due.is("e: the first", training(x, 0, 1, 5, 4), 4);
    due.is("e and g", training(x, 0, 0, 7, 6, 5, 4), 18);
    Due.letter(x, "8f8h");
    x.days(1);
    // f has 1 try left, but does not help alone.
    due.is("e still", training(x, 0, 0, 4, 5), 9);
    due.is("f first costs more", training(x, 0, 1, 4, 5), 4);
    Due.grief(x, 0, "e=40;f=70");
    due.is("f takes one try", training(x, 0, 0, 4, 5), 1);
    due.is("f: the first", training(x, 0, 1, 4, 5), 5);
    due.is("f and g", training(x, 0, 0, 4, 5, 6, 7), 10);
  }

  private static void borne() {
    AfraidInk x = new AfraidInk();
    due.is("no BOTTLES: all", x.borne(0), 65535);
    due.is("no BOTTLES: none", x.borne(1), 65535);
    due.is("no RHYMES", x.borne(2), 0);
    due.is("borne(3)", x.borne(3), -1);
    due.is("borne(-1)", x.borne(-1), -1);
    x = threeBottles();
    due.is("by all", x.borne(0), 65535 - 1 - 2 - 32768);
    due.is("by none", x.borne(1), 0);
    Due.grief(x, 0, "p=21;a~p;b~c");
    due.is("by none: p", x.borne(1), 32768);
    due.is("two twos", x.borne(2), 2);
    StringBuilder all = new StringBuilder("a~b");
    for (char w = 'c'; w <= 'o'; w += 2) {
      all.append(';').append(w).append('~').append((char) (w + 1));
    }
    Due.grief(x, 0, all.toString());
    due.is("eight twos", x.borne(2), 8);
  }
}

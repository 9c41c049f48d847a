/** "Terms", the part marked 2: what is planned and asked of the LETTER, of BOTTLES and of WORDS. */
final class PlanEdges extends Edge {
  static void run() {
    in("Terms");
    changes();
    leastSalt();
    mixture();
    whose();
    next();
    guard();
    training();
    rhymesAndBorne();
  }

  /** BOTTLE b BEARS just the WORDS of its text. */
  private static AfraidInk bearing(String... texts) {
    AfraidInk x = new AfraidInk();
    for (int b = 0; b < texts.length; b++) {
      x.bottle(b, 0);
      StringBuilder grief = new StringBuilder("a=0");
      for (char word = 'a'; word <= 'p'; word++) {
        grief.append(texts[b].indexOf(word) < 0 ? ";" + word + "=21" : "");
      }
      is("GRIEF of " + texts[b], Due.grief(x, b, grief.toString()), 17 - texts[b].length());
    }
    return x;
  }

  private static void rowIs(AfraidInk x, int... row) {
    for (int place = 0; place < row.length; place++) {
      is("BOTTLE at place " + place, x.changes(place), row[place]);
    }
  }

  private static void changes() {
    says("CHANGES: the LETTER by BOTTLES that BEAR its WORDS (INK aside; WORDS that none BEARS are PICTURES and left"
        + " out): the fewest changes from one to another one; the BOTTLE for the WORD at a place (of like ones the"
        + " least row).");
    AfraidInk x = bearing("a", "b");
    is("no LETTER", x.changes(100) + x.changes(101), 0);
    Due.letter(x, "8(3(ab))");
    is("47 changes are the most", x.changes(100), 47);
    is("the last BOTTLE", x.changes(47), 1);
    x.ink(0, 0);
    is("INK aside", x.changes(100), 47);
    Due.letter(x, "9(3a)9a9a3a");
    is("none", x.changes(100), 0);
    Due.letter(x, "acbca");
    is("PICTURES are left out: changes", x.changes(100), 2);
    is("PICTURES", x.changes(101), 2);
    rowIs(x, 0, -2, 1, -2, 0, -4);
    Due.letter(x, "cab");
    rowIs(x, -2, 0, 1);
    Due.letter(x, "6(8c)");
    is("PICTURES alone: changes", x.changes(100), 0);
    is("PICTURES alone", x.changes(101), 48);
    AfraidInk y = new AfraidInk();
    Due.letter(y, "6(8c)");
    is("no BOTTLES", y.changes(101), 48);
    is("no BOTTLES: the last place", y.changes(47), -2);
    AfraidInk z = bearing("b", "ab", "bc", "abc");
    Due.letter(z, "b");
    rowIs(z, 0);
    Due.letter(z, "abc");
    rowIs(z, 3, 3, 3);
    AfraidInk u = bearing("bc", "ab", "c");
    Due.letter(u, "abbc");
    rowIs(u, 1, 0, 0, 0);
    u = bearing("c", "ab", "bc");
    Due.letter(u, "abbc");
    rowIs(u, 1, 1, 1, 0);
  }

  private static void leastSalt() {
    says("LEAST SALT: by how much more SALT (99 at most in all) a BOTTLE would BEAR all WORDS of the LETTER (100: by"
        + " none).");
    AfraidInk x = told(1);
    Due.grief(x, 0, "a=10;b=11;c=59;d=60;e=99");
    is("no LETTER", x.leastSalt(0), 0);
    String[] letters = {"a", "b", "ab", "c", "d", "abcd"};
    int[] want = {0, 2, 2, 98, 100, 100};
    for (int k = 0; k < letters.length; k++) {
      Due.letter(x, letters[k]);
      is("of " + letters[k], x.leastSalt(0), want[k]);
    }
    x.nerve(21);
    is("99, the most", x.leastSalt(0), 99);
    Due.grief(x, 0, "!1");
    is("99 in all", x.leastSalt(0), 98);
    Due.grief(x, 0, "!98");
    is("one more", x.leastSalt(0), 1);
    Due.grief(x, 0, "!99");
    is("none more", x.leastSalt(0), 0);
    x.nerve(20);
    is("by SALT 99 none more can be", x.leastSalt(0), 100);
    Due.letter(x, "e");
    x.nerve(98);
    is("twice 99 by NERVE 98", x.leastSalt(0), 100);
    x.nerve(99);
    is("twice 99 by NERVE 99", x.leastSalt(0), 0);
    is("SALT stays", x.bottleIs(0, 1), 99);
    for (int w = 0; w < 16; w++) {
      AfraidInk y = told(0, 0);
      String word = "" + (char) ('a' + w);
      Due.grief(y, 0, word + "=30");
      is("all WORDS of the LETTER: " + word, Due.letter(y, word) == 1 ? y.leastSalt(0) : -1, 10);
      is("a MIXTURE for it", y.mixture(0, 1, 1), 6);
      Due.letter(y, "a".equals(word) ? "b" : "a");
      is("no other WORDS: not " + word, y.leastSalt(0), 0);
      is("a MIXTURE for others", y.mixture(0, 1, 1), 9);
    }
  }

  private static void mixture() {
    says("A MIXTURE of i parts of 8 of one BOTTLE, the others of another one: SHRINKING by parts, rounded down: the least"
        + " i (0 to 8) by which all WORDS of the LETTER are BORNE; by how many i.");
    AfraidInk x = told(0, 0);
    is("no LETTER: the least", x.mixture(0, 1, 0), 0);
    is("no LETTER: how many", x.mixture(0, 1, 1), 9);
    Due.grief(x, 1, "a=99;b=8");
    Due.letter(x, "a");
    // By i parts of BOTTLE 0: 99, 86, 74, 61, 49, 37, 24, 12, 0.
    int[] nerves = {0, 11, 12, 13, 23, 24, 37, 49, 61, 74, 85, 86, 98, 99};
    int[] least = {8, 8, 7, 7, 7, 6, 5, 4, 3, 2, 2, 1, 1, 0};
    for (int k = 0; k < nerves.length; k++) {
      x.nerve(nerves[k]);
      is("the least i by NERVE " + nerves[k], x.mixture(0, 1, 0), least[k]);
      is("how many by NERVE " + nerves[k], x.mixture(0, 1, 1), 9 - least[k]);
      is("the other way the least i", x.mixture(1, 0, 0), 0);
      is("the other way as many", x.mixture(1, 0, 1), 9 - least[k]);
    }
    Due.grief(x, 0, "b=50");
    Due.letter(x, "ab");
    x.nerve(20);
    is("none", x.mixture(0, 1, 0), -2);
    is("by none", x.mixture(0, 1, 1), 0);
    // b by i parts of BOTTLE 0: 8, 13, 18, 23, 29, 34, 39, 44 and six eighths, 50.
    x.nerve(43);
    is("just 5 and 6", x.mixture(0, 1, 0), 5);
    is("two", x.mixture(0, 1, 1), 2);
    x.nerve(44);
    is("7, too: rounded down", x.mixture(0, 1, 1), 3);
  }

  private static int whose(AfraidInk x, int... bytes) {
    Due.feed(x, bytes);
    return x.whose(bytes.length / 2);
  }

  private static void whose() {
    says("WHOSE: 1 to 12 WORDS, of each whether it went down: told BOTTLES (bits) that BEAR just those that did.");
    AfraidInk x = bearing("ap", "a", "p", "", "abcdefghijklmnop", "", "", "ap");
    is("0 WORDS", whose(x), -1);
    is("1 WORD, the first one", whose(x, 0, 1), 1 + 2 + 16 + 128);
    is("1 WORD that did not", whose(x, 15, 0), 2 + 8 + 32 + 64);
    is("all by both", whose(x, 0, 1, 15, 1), 1 + 16 + 128);
    is("just those", whose(x, 0, 1, 1, 0), 1 + 2 + 128);
    is("both ways: none", whose(x, 0, 1, 0, 0), 0);
    is("none BEARS", whose(x, 0, 0, 15, 0, 1, 1), 0);
    x.check(0);
    is("12 WORDS", whose(x, 0, 1, 1, 1, 2, 1, 3, 1, 4, 1, 5, 1, 6, 1, 7, 1, 8, 1, 9, 1, 10, 1, 15, 1), 16);
    is("12 WORDS, the last did not", whose(x, 0, 1, 0, 1, 0, 1, 0, 1, 0, 1, 0, 1, 0, 1, 0, 1, 0, 1, 0, 1, 0, 1, 15, 0),
        2);
    is("13 WORDS", whose(x, new int[26]), -1);
    is("no BOTTLES", whose(new AfraidInk(), 0, 0), 0);
  }

  private static void next() {
    says("NEXT: of some BOTTLES (bits) the WORD to ask for, so that the greater group of those that BEAR it and those"
        + " that do not is least (of like ones the lowest WORD); how great that is.");
    AfraidInk x = bearing("", "p", "op", "nop", "mnop", "mnop", "mnop", "mnop");
    is("of eight: four BEAR m", x.next(255, 0), 12);
    is("how great", x.next(255, 1), 4);
    is("of one", x.next(1, 0), 0);
    is("of one: how great", x.next(1, 1), 1);
    is("of the last", x.next(128, 1), 1);
    is("of two that are alike: the lowest", x.next(192, 0), 0);
    is("of two that are alike: how great", x.next(192, 1), 2);
    is("of the first two: p", x.next(3, 0), 15);
    is("of the first two: how great", x.next(3, 1), 1);
    is("of three: o, then p", x.next(7, 0), 14);
    is("of three: how great", x.next(7, 1), 2);
  }

  private static void guard() {
    says("A GUARD: the fewest WORDS so that any two told BOTTLES differ in which of them they BEAR; least bits; -2: two"
        + " BEAR alike.");
    AfraidInk x = new AfraidInk();
    is("no BOTTLES", x.guard(0), 0);
    is("no BOTTLES: which", x.guard(1), 0);
    x.bottle(7, 0);
    is("one BOTTLE", x.guard(0), 0);
    is("one BOTTLE: which", x.guard(1), 0);
    x.bottle(0, 0);
    is("two that BEAR alike", x.guard(0), -2);
    is("two that BEAR alike: which", x.guard(1), -2);
    AfraidInk y = bearing("", "p");
    is("known by the last WORD", y.guard(0), 1);
    is("known by the last WORD: which", y.guard(1), 32768);
    y = bearing("ab", "");
    is("least bits", y.guard(1), 1);
    y = bearing("", "p", "o", "n", "m", "l", "k", "j");
    is("seven are the most", y.guard(0), 7);
    is("which seven", y.guard(1), 65535 - 511);
    y = bearing("", "n", "o", "no", "p", "np", "op", "nop");
    is("three are the fewest of eight", y.guard(0), 3);
    is("which three", y.guard(1), 7 << 13);
    Due.grief(y, 7, "p=21");
    is("the last is as another one", y.guard(0), -2);
    y = bearing("abc", "cd", "bd");
    // Any two of b, c, d would do, and a with each of them: a and b are the least bits.
    is("of like ones the least bits", y.guard(1), 3);
  }

  private static int training(AfraidInk x, int what, int... words) {
    Due.feed(x, words);
    return x.training(0, words.length, what);
  }

  private static void training() {
    says("TRAINING of a BOTTLE to 1 to 6 unlike WORDS: it is made USED to some of them, one after the other, each at most"
        + " once (each takes the TRIES that are missing to 9; DREAD and TRIES go on as on a DAY): the fewest tries in all"
        + " so that it BEARS all of these WORDS then; which is the first (of like ones the least row of WORDS).");
    AfraidInk x = told(0);
    is("1 WORD that it BEARS", training(x, 0, 15), 0);
    is("1 WORD that it BEARS: the first", training(x, 1, 15), -2);
    Due.grief(x, 0, "a=99;b=99;c=99;d=99;e=99;p=99");
    is("1 WORD", training(x, 0, 15), 9);
    is("6 WORDS", training(x, 0, 15, 4, 3, 2, 1, 0), 54);
    is("6 WORDS: the least row", training(x, 1, 15, 4, 3, 2, 1, 0), 0);
    is("0 WORDS", training(x, 0), -1);
    is("7 WORDS", training(x, 0, 0, 1, 2, 3, 4, 5, 6), -1);
    x.check(0);
    is("not unlike", training(x, 0, 15, 15), -3);
    Due.letter(x, "8a8b8c8d8e8p");
    x.days(1);
    is("one try is missing of each", training(x, 0, 15, 4, 3, 2, 1, 0), 6);
    is("TRIES stay", x.fear(0, 0, 1), 8);
    AfraidInk y = told(0);
    y.nerve(8);
    Due.grief(y, 0, "a=9;b=8;a~b");
    // a, then b by its 17, then a has 9 again, and each at most once.
    is("each at most once: it can't be", training(y, 0, 0, 1), -4);
    is("nor is there a first", training(y, 1, 0, 1), -4);
    is("a alone", training(y, 0, 0), 9);
    y.nerve(9);
    is("by NERVE 9 it BEARS both", training(y, 0, 0, 1), 0);
    Due.grief(y, 0, "a=99;b=91");
    // b first makes a 99 still, then a makes b 9.
    is("both, 99 at most on the way", training(y, 0, 0, 1), 18);
    is("either may be first: the least row", training(y, 1, 1, 0), 0);
    trainingByManyRows();
    AfraidInk z = told(4);
    Due.grief(z, 0, "a=99;b=31;a~b");
    // Of a MIXED one a makes (0 + 40) / 2 = 20, b makes (99 + 0) / 2, rounded up, 50.
    is("a is enough for both", training(z, 0, 1, 0), 9);
    z.nerve(19);
    is("by NERVE 19 both are needed", training(z, 0, 1, 0), 18);
    is("b then a leaves (0 + 9) / 2, a then b as well", training(z, 1, 1, 0), 0);
    z.nerve(5);
    is("5 by the mean rounded up", training(z, 0, 1, 0), 18);
    z.nerve(4);
    is("4 are too few", training(z, 0, 1, 0), -4);
  }

  /** Rows that begin with a are tried first, and do not help: what they would have done is nothing to the others. */
  private static void trainingByManyRows() {
    AfraidInk x = told(0);
    Due.grief(x, 0, "b=50");
    Due.letter(x, "8b");
    x.days(1);
    is("one try of b", training(x, 0, 0, 1), 1);
    is("b is the first", training(x, 1, 0, 1), 1);
    x = told(0);
    Due.grief(x, 0, "b=50;c=15;a~c");
    is("b alone, and a would make c 24", training(x, 0, 0, 1, 2), 9);
    is("b alone is the first", training(x, 1, 0, 1, 2), 1);
    Due.grief(x, 0, "a=50");
    is("a, then c, by which a has 9, and b", training(x, 0, 0, 1, 2), 27);
    is("a is the first", training(x, 1, 0, 1, 2), 0);
    x.nerve(24);
    is("by NERVE 24 a and b", training(x, 0, 2, 1, 0), 18);
    x.nerve(8);
    is("by NERVE 8 it can't be", training(x, 0, 2, 1, 0), -4);
  }

  private static void rhymesAndBorne() {
    says("RHYMES: how many twos. BORNE by all told BOTTLES (bits of WORDS), by none.");
    AfraidInk x = bearing("ap", "a");
    is("no twos", x.borne(2), 0);
    is("by all", x.borne(0), 1);
    is("by none", x.borne(1), 65535 - 1 - 32768);
    Due.grief(x, 0, "a~p");
    is("one two", x.borne(2), 1);
    Due.grief(x, 0, "a~b;c~d;e~f;g~h;i~j;k~l;m~n;o~p");
    is("eight twos are the most", x.borne(2), 8);
    Due.grief(x, 0, "a~p");
    is("two are parted for one", x.borne(2), 7);
    x.nerve(99);
    is("by all: all", x.borne(0), 65535);
    is("by none: none", x.borne(1), 0);
    for (int b = 0; b < 8; b++) {
      AfraidInk y = told(0, 0, 0, 0, 0, 0, 0, 0);
      Due.grief(y, b, "p=99");
      is("not by BOTTLE " + b + " alone: by all", y.borne(0), 32767);
      is("not by BOTTLE " + b + " alone: by none", y.borne(1), 0);
      for (int other = 0; other < 8; other++) {
        Due.grief(y, other, other == b ? "o=0" : "o=99");
      }
      is("by BOTTLE " + b + " alone: by all", y.borne(0), 16383);
      is("by BOTTLE " + b + " alone: by none", y.borne(1), 0);
    }
  }
}

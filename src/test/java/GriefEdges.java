/** "Terms", GRIEF: LINES, numbers, FAULTS at their places. */
final class GriefEdges extends Edge {
  private static final String DIGITS = "0123456789";
  private static final String WORDS = "abcdefghijklmnop";

  static void run() {
    in("Terms");
    bytes();
    lines();
    dreadByNumber();
    moreOrLess();
    rhymes();
    saltAndKind();
    oneOrTwoDigits();
    firstFromTheLeft();
    faultOfWhatCannotStand();
    faultOfTheEnd();
    faultOfThirdDigit();
    faultOfLine21();
    nothingIsDone();
    nothingElseIsDone();
  }

  private static int read(String text) {
    return Due.grief(told(0), 0, text);
  }

  private static AfraidInk after(String text) {
    AfraidInk x = told(0);
    is("LINES of " + text, Due.grief(x, 0, text), text.split(";").length);
    return x;
  }

  private static int dread(String text) {
    return after(text).fear(0, 0, 0);
  }

  private static void bytes() {
    says("GRIEF: a TEXT of at most 120 bytes, no blanks, for one BOTTLE");
    // No right TEXT has more than 99: 20 LINES of 4 bytes and the ; between them.
    String longest = "a=11;".repeat(19) + "a=12";
    is("99 bytes", read(longest), 20);
    is("120 bytes", read(longest + "x".repeat(21)), -1099);
    AfraidInk x = told(0);
    tape(x, 7, longest);
    is("121 bytes", x.grief(0, 121), -1);
    is("the tape stays", x.count(6), 140);
    is("120 bytes of 140", x.grief(0, 120), -1099);
    is("the tape is empty", x.count(6), 0);
    String[] texts = {" a=1", "a =1", "a= 1", "a=1 ", "a=1; b=1", "a=1 ;b=1", "a=1 1", "a~ b", "! 5", "# 1"};
    int[] places = {0, 1, 2, 3, 4, 3, 3, 2, 1, 1};
    for (int k = 0; k < texts.length; k++) {
      is("no blank: " + texts[k], read(texts[k]), -1000 - places[k]);
    }
    AfraidInk y = told(0, 0);
    is("for BOTTLE 1", Due.grief(y, 1, "a=5;!6;#2"), 3);
    is("DREAD of the other one", y.fear(0, 0, 0), 0);
    is("SALT of the other one", y.bottleIs(0, 1), 0);
    is("KIND of the other one", y.bottleIs(0, 0), 0);
    is("DREAD of this one", y.fear(1, 0, 0), 5);
  }

  /** Each LINE changes what it tells and nothing else. */
  private static void nothingElseIsDone() {
    says("LINES with a ; (59) between two (20 at most): a letter a to p, then = and a number (DREAD), or + or - and a"
        + " number (DREAD more or less; 0 to 99), or ~ and a letter (126:");
    String[] texts = {"b=3", "b+3", "b-3", "b~a", "!3", "#3"};
    int[][] want = {{3, 0, 0, 1}, {8, 0, 0, 1}, {2, 0, 0, 1}, {5, 0, 0, 0}, {5, 3, 0, 1}, {5, 0, 3, 1}};
    for (int k = 0; k < texts.length; k++) {
      AfraidInk x = after("b=5");
      is("one LINE " + texts[k], Due.grief(x, 0, texts[k]), 1);
      is("DREAD of all by " + texts[k], x.bottleIs(0, 4), want[k][0]);
      is("SALT by " + texts[k], x.bottleIs(0, 1), want[k][1]);
      is("KIND by " + texts[k], x.bottleIs(0, 0), want[k][2]);
      is("RHYME of b by " + texts[k], x.rhyme(1), want[k][3]);
      is("twos by " + texts[k], x.borne(2), 1 - want[k][3]);
      is("INK by " + texts[k], x.bottleIs(0, 2), 999);
    }
  }

  private static void lines() {
    says("LINES with a ; (59) between two (20 at most)");
    is("one LINE", read("a=1"), 1);
    is("two LINES", read("a=1;b=2"), 2);
    is("sign 58 between", read("a=1:b=2"), -1003);
    is("sign 60 between", read("a=1<b=2"), -1003);
    is("two ; between", read("a=1;;b=2"), -1004);
    is("a ; ahead", read(";a=1"), -1000);
    is("a ; behind", read("a=1;"), -1004);
    AfraidInk x = told(0);
    is("19 LINES", Due.grief(x, 0, "a+1;".repeat(18) + "a+1"), 19);
    is("20 LINES", Due.grief(x, 0, "a+1;".repeat(19) + "a+1"), 20);
    is("all of them are done", x.fear(0, 0, 0), 39);
    is("21 LINES", Due.grief(x, 0, "a+1;".repeat(20) + "a+1"), -4080);
    is("none of them is done", x.fear(0, 0, 0), 39);
  }

  private static void dreadByNumber() {
    says("a letter a to p, then = and a number (DREAD)");
    String[] numbers = {"0", "00", "1", "01", "9", "09", "10", "90", "98", "99"};
    for (String number : numbers) {
      is("DREAD by a=" + number, dread("a=" + number), Integer.parseInt(number));
    }
    is("a=99 in place of 5", dread("a=5;a=99"), 99);
    is("a=0 in place of 99", dread("a=99;a=0"), 0);
    for (char word = 'a'; word <= 'p'; word++) {
      AfraidInk x = after(word + "=7");
      is("DREAD of " + word, x.fear(0, word - 'a', 0), 7);
      is("and of no other one than " + word, x.bottleIs(0, 4), 7);
    }
  }

  private static void moreOrLess() {
    says("or + or - and a number (DREAD more or less; 0 to 99)");
    String[] texts = {"a=50;a+48", "a=50;a+49", "a=50;a+50", "a=99;a+1", "a=99;a+99", "a+99", "a+0", "a=50;a-49",
        "a=50;a-50", "a=50;a-51", "a-1", "a-99", "a=99;a-99", "a=99;a-0", "a=99;a+99;a-99", "a-99;a+5"};
    int[] want = {98, 99, 99, 99, 99, 99, 0, 1, 0, 0, 0, 0, 0, 99, 0, 5};
    for (int k = 0; k < texts.length; k++) {
      is("DREAD by " + texts[k], dread(texts[k]), want[k]);
    }
  }

  private static void rhymes() {
    says("or ~ and a letter (126: both WORDS are each other's RHYME; theirs of before have none then; one with itself:"
        + " it has none)");
    AfraidInk x = after("a~p");
    is("RHYME of a", x.rhyme(0), 15);
    is("RHYME of p", x.rhyme(15), 0);
    is("once more", Due.grief(x, 0, "a~p"), 1);
    is("RHYME of a stays", x.rhyme(0), 15);
    is("RHYME of p stays", x.rhyme(15), 0);
    is("the other way", Due.grief(x, 0, "p~a"), 1);
    is("RHYME of a stays still", x.rhyme(0), 15);
    is("b~c", Due.grief(x, 0, "b~c"), 1);
    is("a~b", Due.grief(x, 0, "a~b"), 1);
    int[] want = {1, 0, 2};
    for (int w = 0; w < 3; w++) {
      is("RHYME of " + w, x.rhyme(w), want[w]);
    }
    is("p has none", x.rhyme(15), 15);
    is("a~a", Due.grief(x, 0, "a~a"), 1);
    is("a has none", x.rhyme(0), 0);
    is("b has none", x.rhyme(1), 1);
    is("one that has none with itself", Due.grief(x, 0, "c~c"), 1);
    is("c has none", x.rhyme(2), 2);
    is("no twos", x.borne(2), 0);
    everyTwo();
    is("sign 125", read("a}b"), -1001);
    is("sign 127", read("a" + (char) 127 + "b"), -1001);
  }

  private static void everyTwo() {
    for (int v = 0; v < 16; v++) {
      for (int w = 0; w < 16; w++) {
        String text = (char) ('a' + v) + "~" + (char) ('a' + w);
        AfraidInk x = after(text);
        is("RHYME of the first by " + text, x.rhyme(v), w);
        is("RHYME of the second by " + text, x.rhyme(w), v);
        is("twos by " + text, x.borne(2), v == w ? 0 : 1);
      }
    }
  }

  private static void saltAndKind() {
    says("or ! and a number (SALT); or # and a digit 0 to 4 (KIND).");
    String[] numbers = {"0", "00", "9", "09", "10", "99"};
    for (String number : numbers) {
      is("SALT by !" + number, after("!5;!" + number).bottleIs(0, 1), Integer.parseInt(number));
    }
    for (int kind = 0; kind <= 4; kind++) {
      is("KIND by #" + kind, after("#" + (4 - kind) + ";#" + kind).bottleIs(0, 0), kind);
    }
    is("sign 47 for a KIND", read("#/"), -1001);
    is("KIND 5", read("#5"), -1001);
    is("KIND 9", read("#9"), -1001);
    is("KIND of two digits", read("#04"), -1002);
    is("#-1", read("#-1"), -1001);
    is("!-1", read("!-1"), -1001);
  }

  private static void oneOrTwoDigits() {
    says("Numbers of one or two digits.");
    String[] begins = {"a=", "a+", "a-", "!"};
    for (String begin : begins) {
      is("no digit: " + begin, read(begin), -1000 - begin.length());
      is("no digit, a LINE behind: " + begin, read(begin + ";a=1"), -1000 - begin.length());
      is("one digit: " + begin, read(begin + "7"), 1);
      is("two digits: " + begin, read(begin + "77"), 1);
      is("three digits: " + begin, read(begin + "077"), -2000 - begin.length() - 2);
      is("sign 47 for a digit: " + begin, read(begin + "/"), -1000 - begin.length());
      is("sign 58 for a digit: " + begin, read(begin + ":"), -1000 - begin.length());
    }
  }

  private static void firstFromTheLeft() {
    says("FAULTS, the first from the left: 1 what can't stand there (the end, too); 2 a third digit, at it; 4 a 21st"
        + " LINE, at its first byte (if that can stand there).");
    is("1 ahead of 2", read("a*1;a=100"), -1001);
    is("2 ahead of 1", read("a=100;a*1"), -2004);
    is("2 ahead of 4", read("a=100;" + "a=1;".repeat(20)), -2004);
    is("4 ahead of 1", read("a=1;".repeat(20) + "a*"), -4080);
    is("4 ahead of 2", read("a=1;".repeat(20) + "a=100"), -4080);
    is("2 in the 20th LINE ahead of 4", read("a=1;".repeat(19) + "a=100;a=1"), -2080);
    is("the end ahead of a third digit that is not of the TEXT", readFirst("a=100", 4), 1);
    is("the end ahead of the digits", readFirst("a=100", 2), -1002);
  }

  private static int readFirst(String text, int n) {
    AfraidInk x = told(0);
    tape(x, 1, text);
    return x.grief(0, n);
  }

  private static void faultOfWhatCannotStand() {
    says("1 what can't stand there (the end, too)");
    canStand(GriefEdges::read, "", WORDS + "!#");
    canStand(GriefEdges::read, "a=1;", WORDS + "!#");
    canStand(GriefEdges::read, "a", "=+-~");
    canStand(GriefEdges::read, "p", "=+-~");
    canStand(GriefEdges::read, "a=", DIGITS);
    canStand(GriefEdges::read, "a+", DIGITS);
    canStand(GriefEdges::read, "a-", DIGITS);
    canStand(GriefEdges::read, "!", DIGITS);
    canStand(GriefEdges::read, "a=1", DIGITS + ";");
    canStand(GriefEdges::read, "!1", DIGITS + ";");
    canStand(GriefEdges::read, "a=12", ";", DIGITS, 2);
    canStand(GriefEdges::read, "!12", ";", DIGITS, 2);
    canStand(GriefEdges::read, "a~", WORDS);
    canStand(GriefEdges::read, "a~b", ";");
    canStand(GriefEdges::read, "#", "01234");
    canStand(GriefEdges::read, "#4", ";");
  }

  private static void faultOfTheEnd() {
    says("(the end, too)");
    String[] texts = {"a=", "a+", "a-", "a~", "!", "#", "a", "a=1;", "a~b;", "!5;", "#1;", "a=12;b", "a=12;b~"};
    for (String text : texts) {
      is("the end behind " + text, read(text), -1000 - text.length());
    }
    is("the end behind the 20th ;", read("a=11;".repeat(19) + "a=1;"), -1099);
  }

  private static void faultOfThirdDigit() {
    says("2 a third digit, at it");
    is("of =", read("a=100"), -2004);
    is("of =, zeros", read("a=000"), -2004);
    is("of +", read("a+123"), -2004);
    is("of -", read("a-999"), -2004);
    is("of !", read("!100"), -2003);
    is("in the second LINE", read("a=12;b=345"), -2009);
    is("the third of more", read("a=1234567"), -2004);
    is("at the end of the 20th LINE", read("a=11;".repeat(19) + "a=111"), -2099);
  }

  private static void faultOfLine21() {
    says("4 a 21st LINE, at its first byte (if that can stand there)");
    String twenty = "a=11;".repeat(19) + "#1;";
    canStand(GriefEdges::read, twenty, "", WORDS + "!#", 4);
    is("its first byte alone", read(twenty + "p"), -4098);
    is("a whole 21st LINE", read(twenty + "b=1"), -4098);
    is("a 21st and a 22nd", read(twenty + "b=1;c=1"), -4098);
    is("what can't stand there", read(twenty + "q"), -1098);
    is("the end", read(twenty), -1098);
    is("a ; again", read(twenty + ";"), -1098);
  }

  private static void nothingIsDone() {
    says("Nothing is done by GRIEF with a FAULT.");
    String begin = "a=9;b+9;c-2;a~b;!7;#2;";
    String[] faults = {"q", "a", "a=", "a=100", "a~q", "!100", "#5", "", "a=1 ", "a+1;".repeat(20)};
    for (String fault : faults) {
      AfraidInk x = told(0);
      Due.grief(x, 0, "c=5;c~d;!3;#1");
      is("a FAULT by .." + fault, Due.grief(x, 0, begin + fault) <= -1000, true);
      is("DREAD of a", x.fear(0, 0, 0), 0);
      is("DREAD of b", x.fear(0, 1, 0), 0);
      is("DREAD of c", x.fear(0, 2, 0), 5);
      is("RHYME of a", x.rhyme(0), 0);
      is("RHYME of c", x.rhyme(2), 3);
      is("SALT", x.bottleIs(0, 1), 3);
      is("KIND", x.bottleIs(0, 0), 1);
    }
  }
}

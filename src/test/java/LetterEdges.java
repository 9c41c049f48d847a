/** "Terms", a LETTER: rounds, 48 WORDS, FAULTS at their places. */
final class LetterEdges extends Edge {
  private static final String BEGIN = "abcdefghijklmnop23456789(";

  static void run() {
    in("Terms");
    bytes();
    soMany();
    soManyTimes();
    fortyEight();
    faultOfWhatCannotStand();
    faultOfTheEnd();
    faultOfThirdRound();
    faultOfTooMany();
    inPlaceOfTheOneBefore();
  }

  private static int read(String text) {
    return Due.letter(new AfraidInk(), text);
  }

  /** How often each WORD a, b, c stands in the LETTER: once a DAY a BOTTLE of its own is tried for each. */
  private static String tries(String text) {
    AfraidInk x = told(3);
    is("letter " + text + " is read", Due.letter(x, text) > 0, true);
    x.days(1);
    return x.fear(0, 0, 1) + " " + x.fear(0, 1, 1) + " " + x.fear(0, 2, 1);
  }

  private static void triesAre(String text, String want) {
    String got = tries(text);
    is("WORDS a, b, c of " + text + ": " + got + ", due " + want, got.equals(want), true);
  }

  private static void bytes() {
    says("A LETTER: a TEXT of at most 60 bytes, no blanks (none at first)");
    AfraidInk x = new AfraidInk();
    is("none at first", x.count(8), 0);
    String sixty = "(a)".repeat(20);
    tape(x, 4, sixty + "b");
    is("61 bytes", x.letter(61), -1);
    is("the tape stays", x.count(6), 80);
    is("60 bytes", x.letter(60), 20);
    is("its WORDS", x.count(8), 20);
    is("1 byte", read("a"), 1);
    is("a blank ahead", read(" a"), -1000);
    is("a blank between", read("a b"), -1001);
    is("a blank behind", read("a "), -1001);
    is("a blank behind a digit", read("2 a"), -1001);
    is("a blank in a round", read("( a)"), -1001);
    is("a blank at the end of a round", read("(a )"), -1002);
  }

  private static void soMany() {
    says("a letter a to p, ahead of it perhaps a digit 2 to 9 (so many)");
    is("none: one", read("p"), 1);
    for (int times = 2; times <= 9; times++) {
      is(times + "a", read(times + "a"), times);
    }
    is("0a", read("0a"), -1000);
    is("1a", read("1a"), -1000);
    is("sign 58", read(":a"), -1000);
    is("two digits", read("10a"), -1000);
    is("two digits from 2 on", read("22a"), -1001);
    triesAre("8ab2c", "8 1 2");
  }

  private static void soManyTimes() {
    says("or (WORDS), ahead of it perhaps a digit 2 to 9 (so many times).");
    is("none: once", read("(ab)"), 2);
    for (int times = 2; times <= 9; times++) {
      is(times + "(ab)", read(times + "(ab)"), 2 * times);
    }
    is("0(a)", read("0(a)"), -1000);
    is("1(a)", read("1(a)"), -1000);
    is("two digits", read("22(a)"), -1001);
    is("no WORDS", read("()"), -1001);
    is("no WORDS, so many times", read("2()"), -1002);
    triesAre("2(a3b)c", "2 6 1");
    triesAre("2(2(ab)a)c", "6 4 1");
  }

  private static void fortyEight() {
    says("48 at most in all.");
    String[] texts = {"a".repeat(48), "6(8a)", "8(6a)", "6(2(4a))", "5(9a)3a", "3a5(9a)", "9a9b9c9d9e3f", "4(4(3a))",
        "3(2(8a))", "((a))6(7a)5b"};
    for (String text : texts) {
      is("48 by " + text, read(text), 48);
      is("a 49th behind " + text, read(text + "p"), -6000 - text.length());
    }
    is("47", read("5(9a)2a"), 47);
    is("49 single ones", read("a".repeat(49)), -6048);
    is("49 by 7(7a)", read("7(7a)"), -6000);
    is("60 single ones", read("a".repeat(60)), -6048);
  }

  private static void faultOfWhatCannotStand() {
    says("FAULTS: 1;");
    canStand(LetterEdges::read, "", BEGIN);
    canStand(LetterEdges::read, "a", BEGIN);
    canStand(LetterEdges::read, "2", "abcdefghijklmnop(");
    canStand(LetterEdges::read, "9", "abcdefghijklmnop(");
    canStand(LetterEdges::read, "2a", BEGIN);
    canStand(LetterEdges::read, "(", BEGIN);
    canStand(LetterEdges::read, "(a", BEGIN + ")");
    canStand(LetterEdges::read, "(2", "abcdefghijklmnop(");
    canStand(LetterEdges::read, "(a)", BEGIN);
    canStand(LetterEdges::read, "((", BEGIN.replace("(", ""), "(", 5);
    canStand(LetterEdges::read, "((a", BEGIN.replace("(", "") + ")", "(", 5);
    canStand(LetterEdges::read, "((a)", BEGIN + ")");
    canStand(LetterEdges::read, "((a))", BEGIN);
  }

  private static void faultOfTheEnd() {
    says("FAULTS: 1; 5 a third ( that is open in another one, at it;");
    endTooEarly(LetterEdges::read, "2(3(a2b)c)");
    String[] texts = {"2", "a2", "(", "2(", "(a", "(2a", "(a2", "((a)", "((a)b"};
    for (String text : texts) {
      is("the end behind " + text, read(text), -1000 - text.length());
    }
    is("the end at place 60", read("(a)".repeat(19) + "(a2"), -1060);
    AfraidInk x = new AfraidInk();
    tape(x, 1, "2(ab)c");
    is("the end at n, not at that of the tape", x.letter(4), -1004);
    tape(x, 1, "abcdef");
    is("only the first n", x.letter(3), 3);
  }

  private static void faultOfThirdRound() {
    says("5 a third ( that is open in another one, at it");
    is("one", read("(a)"), 1);
    is("two", read("((a))"), 1);
    is("three", read("(((a)))"), -5002);
    is("three, so many times", read("2(2(2(a)))"), -5005);
    is("a third behind a WORD", read("(a(b(c)))"), -5004);
    is("a third behind one that ended", read("((a)(b(c)))"), -5006);
    is("two, and two again", read("((a))((b))"), 2);
    is("two in one", read("((a)(b))"), 2);
    is("it is asked ahead of what is in it", read("(((q"), -5002);
    is("at the ( and not at its digit", read("((9("), -5003);
    is("at place 59", read("(a)".repeat(19) + "((("), -5059);
  }

  private static void faultOfTooMany() {
    says("6 more than 48, at the first byte of what (or its digit) by which they are (asked when it ends; of an inner"
        + " one first).");
    String[] texts = {"6(8a)b", "6(8a)2b", "6(8a)(b)", "6(8a)2(b)", "5(9a)3a9b", "5(9a)4a", "b6(8a)", "7(7a)", "b7(7a)",
        "a".repeat(48) + "b", "a".repeat(47) + "2b", "a".repeat(47) + "bb"};
    int[] want = {-6005, -6005, -6006, -6007, -6007, -6005, -6001, -6000, -6001, -6048, -6047, -6048};
    for (int k = 0; k < texts.length; k++) {
      is("too many by " + texts[k], read(texts[k]), want[k]);
    }
    is("asked when it ends: the end of the TEXT comes first", read("7(7a"), -1004);
    is("asked when it ends: what can't stand in it comes first", read("7(7aq"), -1004);
    is("asked when it ends: a third ( in it comes first", read("7(7a(("), -5005);
    is("asked when it ends: what comes behind is not", read("7(7a)q"), -6000);
    is("asked when it ends: what comes behind is not, by a single WORD", read("a".repeat(49) + "q"), -6048);
    is("of an inner one first", read("2(7(7a))"), -6002);
    is("of an inner one first: 9(9(9a))", read("9(9(9a))"), -6002);
    is("of an inner one that has not too many", read("2(6(8a))"), -6000);
    is("of the WORD in a round", read("2(6(8a)b)"), -6007);
    is("a digit alone behind 48 WORDS", read("6(8a)2"), -1006);
    is("a ( alone behind 48 WORDS", read("6(8a)("), -1006);
    is("of an inner one that passes 48 by what is ahead of it", read("5(9a)(5a)"), -6006);
    is("of an inner one in an inner one", read("5(9a)((5a))"), -6007);
    String long48 = "(a)".repeat(16) + "9a9a9aaaaaa";
    is("48 WORDS in 59 bytes", read(long48), 48);
    is("at place 59", read(long48 + "b"), -6059);
  }

  private static void inPlaceOfTheOneBefore() {
    says("In place of the one before.");
    AfraidInk x = told(3);
    Due.letter(x, "6(8a)");
    is("48 WORDS", x.count(8), 48);
    is("one", Due.letter(x, "b"), 1);
    is("WORDS then", x.count(8), 1);
    x.days(1);
    is("no a is left", x.fear(0, 0, 1), 0);
    is("but b", x.fear(0, 1, 1), 1);
    is("a FAULT", Due.letter(x, "aq"), -1001);
    is("one with too many", Due.letter(x, "7(7a)"), -6000);
    is("WORDS stay", x.count(8), 1);
    x.days(1);
    is("still no a", x.fear(0, 0, 1), 0);
    is("b again", x.fear(0, 1, 1), 2);
  }
}

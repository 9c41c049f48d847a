/** Promise 9: letter. */
public final class LetterTest {
  private static final Due due = new Due("LetterTest");

  public static void main(String[] args) {
    rounds();
    faults();
    fortyEight();
    theOneBeforeStays();
    due.end();
  }

  /** Each WORD is known by the one BOTTLE that BEARS it: a by 0, b by 1, .. h by 7. */
  private static AfraidInk readable() {
    AfraidInk x = new AfraidInk();
    for (int b = 0; b < 8; b++) {
      x.bottle(b, 0);
      StringBuilder text = new StringBuilder();
      for (int w = 0; w < 8; w++) {
        text.append(w == 0 ? "" : ";").append((char) ('a' + w)).append(w == b ? "=0" : "=99");
      }
      Due.grief(x, b, text.toString());
    }
    return x;
  }

  private static String written(AfraidInk x) {
    StringBuilder text = new StringBuilder();
    for (int place = 0; place < x.count(8); place++) {
      text.append((char) ('a' + x.changes(place)));
    }
    return text.toString();
  }

  private static void rounds() {
    String[] texts = {"a", "h", "3a", "a2bc", "(a)", "2(ab)", "2(a2b)c", "((a))", "2(3(ab)c)", "(a)(b)", "2(a(b)2(c))",
        "9a9b9c9d9e3f"};
    String[] want = {"a", "h", "aaa", "abbc", "a", "abab", "abbabbc", "a", "abababcabababc", "ab", "abccabcc",
        "a".repeat(9) + "b".repeat(9) + "c".repeat(9) + "d".repeat(9) + "e".repeat(9) + "fff"};
    for (int k = 0; k < texts.length; k++) {
      AfraidInk x = readable();
      due.is("letter " + texts[k], Due.letter(x, texts[k]), want[k].length());
      due.is("count(8) of " + texts[k], x.count(8), want[k].length());
      due.is("WORDS of " + texts[k], written(x).equals(want[k]), true);
      due.is("the tape is empty behind " + texts[k], x.count(6), 0);
    }
    AfraidInk x = new AfraidInk();
    due.is("letter p", Due.letter(x, "p"), 1);
  }

  private static void faults() {
    String[] texts = {"q", "A", " ", "0a", "1a", "3", "33a", "a)", ")", "(", "()", "(a", "((a)", "(a))", "2(", "2()",
        "(((", "(((a)))", "((2(a)))", "((a)(b))((c)", "((a)((", "(q", "a;b", "(a)2", "((a)q"};
    int[] want = {-1000, -1000, -1000, -1000, -1000, -1001, -1001, -1001, -1000, -1001, -1001, -1002, -1004, -1003,
        -1002, -1002, -5002, -5002, -5003, -1012, -5005, -1001, -1001, -1004, -1004};
    for (int k = 0; k < texts.length; k++) {
      AfraidInk x = new AfraidInk();
      due.is("letter " + texts[k], Due.letter(x, texts[k]), want[k]);
      due.is("none behind " + texts[k], x.count(8), 0);
      due.is("the tape is empty behind " + texts[k], x.count(6), 0);
    }
  }

  private static void fortyEight() {
    String[] texts = {"6(8a)", "6(4(2a))", "a".repeat(48), "a".repeat(49), "6(8a)b", "6(8a)2b", "7(7a)", "b7(7a)",
        "6(9a)q", "6(9aq", "6(9a", "2(7(7a))", "2(6(8a))", "2(6(8a)b)", "5(9a)(5a)", "5(9a)2(2a)", "9(9(9a))",
        "8(6a)(((", "8(6a)3", "7(7a)(((", "a".repeat(60)};
    int[] want = {48, 48, 48, -6048, -6005, -6005, -6000, -6001, -6000, -1004, -1004, -6002, -6000, -6007, -6006,
        -6005, -6002, -5007, -1006, -6000, -6048};
    for (int k = 0; k < texts.length; k++) {
      AfraidInk x = new AfraidInk();
      due.is("letter " + texts[k], Due.letter(x, texts[k]), want[k]);
    }
  }

  private static void theOneBeforeStays() {
    AfraidInk x = readable();
    Due.letter(x, "2(ab)");
    due.is("a FAULT", Due.letter(x, "ccq"), -1002);
    due.is("too many", Due.letter(x, "9(9h)"), -6000);
    due.is("the one before stays", written(x).equals("abab"), true);
    Due.feed(x, Due.bytesOf("cd"));
    due.is("letter(0)", x.letter(0), -1);
    due.is("letter(61)", x.letter(61), -1);
    due.is("letter(2)", x.letter(2), 2);
    due.is("in place of the one before", written(x).equals("cd"), true);
  }
}

/** Promises 16, 17, 18: changes, leastSalt, mixture. */
public final class PlanTest {
  private static final Due due = new Due("PlanTest");

  public static void main(String[] args) {
    changes();
    leastRow();
    pictures();
    leastSalt();
    mixture();
    due.end();
  }

  /** BOTTLE b BEARS just the WORDS of its text. */
  private static AfraidInk bearing(String... texts) {
    AfraidInk x = new AfraidInk();
    for (int b = 0; b < texts.length; b++) {
      x.bottle(b, 0);
      StringBuilder grief = new StringBuilder();
      for (char word = 'a'; word <= 'p'; word++) {
        if (texts[b].indexOf(word) < 0) {
          grief.append(grief.length() == 0 ? "" : ";").append(word).append("=21");
        }
      }
      if (grief.length() > 0) {
        Due.grief(x, b, grief.toString());
      }
    }
    return x;
  }

  private static void asked(String name, AfraidInk x, int changes, int... row) {
    due.is(name + ": changes(100)", x.changes(100), changes);
    for (int place = 0; place < row.length; place++) {
      due.is(name + ": changes(" + place + ")", x.changes(place), row[place]);
    }
    if (row.length < 48) {
      due.is(name + ": behind its end", x.changes(row.length), -4);
    }
  }

  private static void changes() {
    AfraidInk x = new AfraidInk();
    due.is("changes(-1)", x.changes(-1), -1);
    due.is("changes(48)", x.changes(48), -1);
    due.is("changes(99)", x.changes(99), -1);
    due.is("changes(102)", x.changes(102), -1);
    due.is("changes(MIN)", x.changes(Integer.MIN_VALUE), -1);
    due.is("changes(47) without a LETTER", x.changes(47), -4);
    x = bearing("ab", "bc", "cd");
    Due.letter(x, "abcd");
    asked("abcd", x, 1, 0, 0, 2, 2);
    Due.letter(x, "bcba");
    asked("bcba", x, 1, 1, 1, 0, 0);
    x.ink(1, 0);
    asked("INK aside", x, 1, 1, 1, 0, 0);
    Due.law(x, "f99(b<9)");
    asked("THE LAW aside", x, 1, 1, 1, 0, 0);
    Due.letter(x, "6(8d)");
    due.is("48 WORDS", x.changes(47), 2);
  }

  private static void leastRow() {
    AfraidInk x = bearing("ab", "ac", "bc", "abc");
    Due.letter(x, "abc");
    asked("one bears all", x, 0, 3, 3, 3);
    x = bearing("ab", "ac", "bc");
    Due.letter(x, "abc");
    asked("abc", x, 1, 0, 0, 1);
    Due.letter(x, "cab");
    asked("cab", x, 1, 1, 0, 0);
    Due.letter(x, "abcabc");
    asked("abcabc", x, 2, 0, 0, 1, 1, 2, 2);
    x = bearing("b", "ab", "bc");
    Due.letter(x, "abbbc");
    asked("a row may change late or early", x, 1, 1, 1, 1, 1, 2);
    x = bearing("bc", "ab");
    Due.letter(x, "abbc");
    asked("early is less here", x, 1, 1, 0, 0, 0);
    x = bearing("e", "ab", "b", "bc");
    Due.letter(x, "abce");
    asked("a third one does not help", x, 2, 1, 1, 3, 0);
  }

  private static void pictures() {
    AfraidInk x = bearing("a", "b");
    Due.letter(x, "acacbp");
    asked("PICTURES are left out", x, 1, 0, -2, 0, -2, 1, -2);
    due.is("changes(101)", x.changes(101), 3);
    Due.letter(x, "3c");
    asked("PICTURES alone", x, 0, -2, -2, -2);
    due.is("changes(101) of all", x.changes(101), 3);
    x = new AfraidInk();
    Due.letter(x, "ab");
    asked("no BOTTLES", x, 0, -2, -2);
    due.is("two PICTURES", x.changes(101), 2);
    due.is("the count stays", x.count(3), 0);
  }

  private static void leastSalt() {
    AfraidInk x = new AfraidInk();
    due.is("none told", x.leastSalt(0), -1);
    due.is("leastSalt(-1)", x.leastSalt(-1), -1);
    due.is("leastSalt(8)", x.leastSalt(8), -1);
    x.bottle(0, 1);
    Due.grief(x, 0, "a=20;b=59;c=60");
    due.is("without a LETTER", x.leastSalt(0), 0);
    Due.letter(x, "a");
    due.is("a DESERTER of a=20", x.leastSalt(0), 20);
    Due.letter(x, "ab");
    due.is("of b=59", x.leastSalt(0), 98);
    Due.letter(x, "abc");
    due.is("of c=60: 100", x.leastSalt(0), 100);
    x.nerve(21);
    due.is("99 are enough then", x.leastSalt(0), 99);
    Due.grief(x, 0, "!40");
    due.is("99 in all", x.leastSalt(0), 59);
    x.nerve(20);
    due.is("more than 99 in all", x.leastSalt(0), 100);
    Due.letter(x, "a");
    due.is("SALT enough", x.leastSalt(0), 0);
    Due.grief(x, 0, "a=99");
    x.nerve(98);
    due.is("twice 99, NERVE 98", x.leastSalt(0), 100);
    x.nerve(99);
    due.is("NERVE 99 BEARS all", x.leastSalt(0), 0);
    due.is("SALT stays", x.bottleIs(0, 1), 40);
  }

  private static void mixture() {
    AfraidInk x = new AfraidInk();
    x.bottle(0, 0);
    x.bottle(1, 0);
    due.is("without a LETTER: the least", x.mixture(0, 1, 0), 0);
    due.is("without a LETTER: how many", x.mixture(0, 1, 1), 9);
    due.is("the same", x.mixture(1, 1, 0), -1);
    due.is("none told", x.mixture(0, 2, 0), -1);
    due.is("none told ahead", x.mixture(2, 0, 0), -1);
    due.is("mixture(-1, 0, 0)", x.mixture(-1, 0, 0), -1);
    due.is("mixture(0, 8, 0)", x.mixture(0, 8, 0), -1);
    due.is("what 2", x.mixture(0, 1, 2), -1);
    due.is("what -1", x.mixture(0, 1, -1), -1);
    Due.grief(x, 1, "a=28");
    Due.letter(x, "a");
    // i parts of BOTTLE 0: 28 (8 - i) / 8, rounded down: 28, 24, 21, 17 ..
    due.is("the least i", x.mixture(0, 1, 0), 3);
    due.is("by how many", x.mixture(0, 1, 1), 6);
    due.is("the other way: the least i", x.mixture(1, 0, 0), 0);
    due.is("the other way: by how many", x.mixture(1, 0, 1), 6);
    Due.grief(x, 1, "a=27");
    // 27, 23, 20.25 rounded down
    due.is("rounded down", x.mixture(0, 1, 0), 2);
    Due.grief(x, 0, "b=99");
    Due.letter(x, "ab");
    due.is("none: the least", x.mixture(0, 1, 0), -2);
    due.is("none: how many", x.mixture(0, 1, 1), 0);
    Due.grief(x, 0, "b=80");
    due.is("just one", x.mixture(0, 1, 0), 2);
    due.is("just one: how many", x.mixture(0, 1, 1), 1);
    Due.letter(x, "c");
    due.is("only WORDS of the LETTER", x.mixture(0, 1, 1), 9);
  }
}

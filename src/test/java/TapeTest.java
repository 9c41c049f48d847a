/** Promise 6: feed, and that a call with a wrong n leaves the tape. */
public final class TapeTest {
  private static final Due due = new Due("TapeTest");

  public static void main(String[] args) {
    fullTape();
    highestByteFirst();
    wrongLengthsLeaveTheTape();
    due.end();
  }

  private static void fullTape() {
    AfraidInk x = new AfraidInk();
    due.is("empty", x.count(6), 0);
    for (int k = 1; k <= 13; k++) {
      due.is("feed " + k, x.feed(0, 0, 0, 0, 0), 20 * k);
    }
    due.is("feed beyond 260", x.feed(1, 1, 1, 1, 1), -1);
    due.is("still 260", x.count(6), 260);
    due.is("check(0) empties", x.check(0), -1);
    due.is("empty then", x.count(6), 0);
    due.is("feed again", x.feed(0, 0, 0, 0, 0), 20);
  }

  private static void highestByteFirst() {
    AfraidInk x = new AfraidInk();
    x.bottle(0, 0);
    for (int b = 0; b < 8; b++) {
      x.bottle(b, 0);
      Due.grief(x, b, "!" + (10 + b));
    }
    x.feed(0x0A0B0C0D, 0x0E0F1011, -1, -1, -1);
    due.is("check(8)", x.check(8), -1);
    x.feed(-1, -1, -1, -1, -1);
    due.is("a byte of 255 is no SALT", x.check(1), 0);
    x.feed(0x0F000102, 0x03040506, 0x07080901, 0x0B0A0000, 0);
    due.is("rings by twelve bytes, a wrong one ahead", x.rings(12, 0), -3);
    x.feed(0, 0, 0, 0, 0x01000000);
    x.feed(0x00000000, 0, 0, 0, 0);
    due.is("second twenty behind the first", x.count(6), 40);
  }

  private static void wrongLengthsLeaveTheTape() {
    AfraidInk x = new AfraidInk();
    x.bottle(0, 0);
    x.feed(0, 0, 0, 0, 0);
    due.is("law(0)", x.law(0), -1);
    due.is("law(-1)", x.law(-1), -1);
    due.is("law(21)", x.law(21), -1);
    due.is("law(241)", x.law(241), -1);
    due.is("grief(0, 0)", x.grief(0, 0), -1);
    due.is("grief(0, 21)", x.grief(0, 21), -1);
    due.is("grief(1, 1)", x.grief(1, 1), -1);
    due.is("letter(0)", x.letter(0), -1);
    due.is("letter(21)", x.letter(21), -1);
    due.is("whose(0)", x.whose(0), -1);
    due.is("whose(11)", x.whose(11), -1);
    due.is("whose(13)", x.whose(13), -1);
    due.is("whose(MIN)", x.whose(Integer.MIN_VALUE), -1);
    due.is("training(0, 0, 0)", x.training(0, 0, 0), -1);
    due.is("training(0, 7, 0)", x.training(0, 7, 0), -1);
    due.is("training(1, 1, 0)", x.training(1, 1, 0), -1);
    due.is("training(0, 1, 2)", x.training(0, 1, 2), -1);
    due.is("treaty(0, 1, 0)", x.treaty(0, 1, 0), -1);
    due.is("treaty(7, 1, 0)", x.treaty(7, 1, 0), -1);
    due.is("treaty(1, 0, 0)", x.treaty(1, 0, 0), -1);
    due.is("treaty(1, 7, 0)", x.treaty(1, 7, 0), -1);
    due.is("treaty(1, 1, 3)", x.treaty(1, 1, 3), -1);
    due.is("treaty(1, 1, -1)", x.treaty(1, 1, -1), -1);
    due.is("treaty(6, 2, 0)", x.treaty(6, 2, 0), -1);
    due.is("forgery(0, 0)", x.forgery(0, 0), -1);
    due.is("forgery(10, 0)", x.forgery(10, 0), -1);
    due.is("forgery(1, 4)", x.forgery(1, 4), -1);
    due.is("forgery(1, -1)", x.forgery(1, -1), -1);
    due.is("rings(0, 0)", x.rings(0, 0), -1);
    due.is("rings(13, 0)", x.rings(13, 0), -1);
    due.is("rings(1, 2)", x.rings(1, 2), -1);
    due.is("rings(1, -1)", x.rings(1, -1), -1);
    due.is("check(-1)", x.check(-1), -2);
    due.is("check(9)", x.check(9), -2);
    due.is("the tape stays", x.count(6), 20);
    for (int k = 0; k < 12; k++) {
      x.feed(0, 0, 0, 0, 0);
    }
    due.is("law(241) of 260", x.law(241), -1);
    due.is("grief(0, 121) of 260", x.grief(0, 121), -1);
    due.is("letter(61) of 260", x.letter(61), -1);
    due.is("260 stay", x.count(6), 260);
    due.is("law(240) of zeros", x.law(240), -1000);
    due.is("a FAULT empties", x.count(6), 0);
    due.is("whose(1) of an empty tape", x.whose(1), -1);
    due.is("training of an empty tape", x.training(0, 1, 0), -1);
    due.is("treaty of an empty tape", x.treaty(1, 1, 0), -1);
    due.is("forgery of an empty tape", x.forgery(1, 0), -1);
    due.is("rings of an empty tape", x.rings(1, 0), -1);
    due.is("check(1) of an empty tape", x.check(1), -2);
    due.is("law(1) of an empty tape", x.law(1), -1);
    due.is("grief(0, 1) of an empty tape", x.grief(0, 1), -1);
    due.is("letter(1) of an empty tape", x.letter(1), -1);
  }
}

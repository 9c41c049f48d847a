/** Promises 24 to 26: treaty, forgery, rings. */
public final class TableTest {
  private static final Due due = new Due("TableTest");

  public static void main(String[] args) {
    treaty();
    forgery();
    rings();
    due.end();
  }

  private static void treaty(String name, int n, int m, int[] table, int rests, int first, int bargains) {
    int[] want = {rests, first, bargains};
    for (int what = 0; what < 3; what++) {
      AfraidInk x = new AfraidInk();
      Due.feed(x, table);
      due.is(name + ": treaty(" + n + ", " + m + ", " + what + ")", x.treaty(n, m, what), want[what]);
      due.is(name + ": the tape is empty", x.count(6), 0);
    }
  }

  private static void treaty() {
    treaty("one two", 1, 1, new int[] {0, 0}, 1, 0, 1);
    // Both would betray: (1, 1) rests, and is left for (3, 3).
    treaty("prisoners", 2, 2, new int[] {3, 3, 0, 5, 5, 0, 1, 1}, 1, 7, 3);
    treaty("pennies", 2, 2, new int[] {1, 0, 0, 1, 0, 1, 1, 0}, 0, -2, 4);
    treaty("meeting", 2, 2, new int[] {2, 1, 0, 0, 0, 0, 1, 2}, 2, 0, 2);
    treaty("all alike", 2, 3, new int[] {7, 7, 7, 7, 7, 7, 7, 7, 7, 7, 7, 7}, 6, 0, 6);
    treaty("a row", 1, 3, new int[] {1, 1, 9, 2, 0, 2}, 2, 1, 1);
    treaty("a column", 3, 1, new int[] {1, 1, 2, 9, 2, 0}, 2, 6, 1);
    treaty("no less for the one, more for the other", 1, 2, new int[] {5, 5, 5, 6}, 1, 1, 1);
    treaty("bytes up to 255", 2, 1, new int[] {127, 255, 255, 0}, 1, 6, 2);
    int[] great = new int[72];
    great[71] = 255;
    great[70] = 255;
    treaty("six by six", 6, 6, great, 26, 0, 1);
    int[] wide = {9, 0, 9, 0, 9, 0, 9, 0, 9, 0, 9, 1, 0, 0, 0, 0, 0, 0, 0, 0, 0, 0, 0, 0};
    treaty("two by six", 2, 6, wide, 1, 5, 1);
    treaty("six by two", 6, 2, wide, 5, 0, 1);
    AfraidInk x = new AfraidInk();
    Due.feed(x, great);
    due.is("80 bytes", x.count(6), 80);
    due.is("six by seven", x.treaty(6, 7, 0), -1);
    due.is("minus", x.treaty(-6, -6, 0), -1);
    due.is("the tape stays", x.count(6), 80);
  }

  private static void forgery(int[] tenths, int... want) {
    for (int what = 0; what < 4; what++) {
      AfraidInk x = new AfraidInk();
      Due.feed(x, tenths);
      String call = "forgery of " + java.util.Arrays.toString(tenths) + ", " + what;
      due.is(call, x.forgery(tenths.length, what), want[what]);
      due.is("the tape is empty", x.count(6), 0);
    }
  }

  private static void forgery() {
    forgery(new int[] {5}, 1, 2, 1, 2);
    forgery(new int[] {3}, 3, 10, 3, 10);
    forgery(new int[] {0}, 0, 1, 0, 1);
    forgery(new int[] {10}, 1, 1, 1, 1);
    forgery(new int[] {0, 10}, 0, 1, 1, 1);
    forgery(new int[] {5, 5}, 1, 4, 3, 4);
    forgery(new int[] {1, 2, 3}, 3, 500, 62, 125);
    forgery(new int[] {3, 3, 3, 3, 3, 3, 3, 3, 3}, 19683, 1000000000, 959646393, 1000000000);
    forgery(new int[] {1, 1, 1, 1, 1, 1, 1, 1, 1}, 1, 1000000000, 612579511, 1000000000);
    forgery(new int[] {10, 10, 10, 10, 10, 10, 10, 10, 10}, 1, 1, 1, 1);
    forgery(new int[] {9, 9, 9, 9, 9, 9, 9, 9, 9}, 387420489, 1000000000, 999999999, 1000000000);
    forgery(new int[] {11}, -3, -3, -3, -3);
    forgery(new int[] {10, 0, 255}, -3, -3, -3, -3);
  }

  private static void rings(int[] order, int howMany, int steps) {
    int[] want = {howMany, steps};
    for (int what = 0; what < 2; what++) {
      AfraidInk x = new AfraidInk();
      Due.feed(x, order);
      String call = "rings of " + java.util.Arrays.toString(order) + ", " + what;
      due.is(call, x.rings(order.length, what), want[what]);
      due.is("the tape is empty", x.count(6), 0);
    }
  }

  private static void rings() {
    rings(new int[] {0}, 1, 1);
    rings(new int[] {1, 0}, 1, 2);
    rings(new int[] {0, 1, 2}, 3, 1);
    rings(new int[] {1, 2, 0, 4, 3}, 2, 6);
    rings(new int[] {1, 2, 0, 4, 5, 6, 3, 8, 9, 10, 11, 7}, 3, 60);
    rings(new int[] {11, 0, 1, 2, 3, 4, 5, 6, 7, 8, 9, 10}, 1, 12);
    rings(new int[] {1, 0, 3, 2, 5, 4, 7, 6, 9, 8, 11, 10}, 6, 2);
    rings(new int[] {1, 2, 3, 0, 5, 4, 6}, 3, 4);
    rings(new int[] {1}, -3, -3);
    rings(new int[] {0, 0}, -3, -3);
    rings(new int[] {0, 2}, -3, -3);
    rings(new int[] {0, 1, 255}, -3, -3);
    rings(new int[] {0, 1, 2, 3, 4, 5, 6, 7, 8, 9, 10, 12}, -3, -3);
    rings(new int[] {0, 1, 2, 3, 4, 5, 6, 7, 8, 9, 10, 10}, -3, -3);
  }
}

/** The chapters of the promises whose calls read rows of bytes: 19, 22, 24, 25, 26, 30. */
final class TapePromiseEdges extends Edge {
  static void run() {
    whose();
    training();
    treaty();
    forgery();
    rings();
    check();
  }

  private static AfraidInk fed(int... bytes) {
    AfraidInk x = new AfraidInk();
    x.bottle(0, 0);
    x.bottle(7, 0);
    Due.grief(x, 7, "p=99");
    Due.feed(x, bytes);
    return x;
  }

  private static int[] twenty(int... first) {
    return java.util.Arrays.copyOf(first, 20);
  }

  private static void whose() {
    in("Promise 19");
    says("WHOSE by the first 2 n bytes of the tape (WORD, 1 went down, 0 not; n 1 to 12; empty then): bits; -3: a WORD"
        + " above 15, neither 0 nor 1; NONE: no such n, it has not so many (the tape stays).");
    AfraidInk x = fed();
    is("of an empty tape", x.whose(1), -1);
    Due.feed(x, twenty(15, 1, 15, 0, 15, 2, 16, 1));
    int[] wrong = {0, -1, 11, 12, 13, 26, 1 << 30, 1 << 31, MAX, MIN};
    for (int n : wrong) {
      is("whose(" + n + ") of 20 bytes", x.whose(n), -1);
    }
    is("the tape stays", x.count(6), 20);
    is("whose(1)", x.whose(1), 1);
    is("empty then", x.count(6), 0);
    is("whose(2)", fed(15, 1, 15, 0, 15, 2, 16, 1).whose(2), 0);
    is("whose(3): 2 is neither 0 nor 1", fed(15, 1, 15, 0, 15, 2, 16, 1).whose(3), -3);
    is("a WORD of 15", fed(15, 0).whose(1), 128);
    is("a WORD of 16", fed(16, 0).whose(1), -3);
    is("a WORD of 255", fed(255, 0).whose(1), -3);
    is("255 is neither 0 nor 1", fed(0, 255).whose(1), -3);
    x = fed(0, 1, 16, 1);
    is("-3 by the second", x.whose(2), -3);
    is("-3 empties, too", x.count(6), 0);
    is("whose(10) of 20 bytes", fed(twenty(15, 0)).whose(10), 0);
    is("the 20th byte of whose(10)", fed(0, 1, 0, 1, 0, 1, 0, 1, 0, 1, 0, 1, 0, 1, 0, 1, 0, 1, 0, 2).whose(10), -3);
    is("the 19th byte is not of whose(9)", fed(0, 1, 0, 1, 0, 1, 0, 1, 0, 1, 0, 1, 0, 1, 0, 1, 0, 1, 16, 2).whose(9), 129);
    x = fed(new int[40]);
    is("whose(13) of 40 bytes", x.whose(13), -1);
    is("40 stay", x.count(6), 40);
    is("whose(12) of 40 bytes", x.whose(12), 0);
    is("all 40 are gone", x.count(6), 0);
  }

  private static void training() {
    in("Promise 22");
    says("TRAINING of a told BOTTLE by the first n bytes of the tape (WORDS; n 1 to 6; empty then), what 0 tries, 1 the"
        + " first WORD (none is needed: -2); -4: it can't be; -3: a WORD above 15, one twice; NONE: no such ones, it has"
        + " not so many (the tape stays).");
    AfraidInk x = fed();
    is("of an empty tape", x.training(7, 1, 0), -1);
    Due.feed(x, 15, 0, 1, 2, 3, 4, 4, 16);
    int[] wrong = {0, -1, 7, 20, 21, MIN, MAX};
    for (int n : wrong) {
      is("training(7, " + n + ", 0)", x.training(7, n, 0), -1);
    }
    int[] bottles = {-1, 1, 6, 8, 39, MIN, MAX};
    for (int b : bottles) {
      is("training(" + b + ", 1, 0)", x.training(b, 1, 0), -1);
    }
    int[] whats = {-1, 2, MIN, MAX};
    for (int what : whats) {
      is("training(7, 1, " + what + ")", x.training(7, 1, what), -1);
    }
    is("the tape stays", x.count(6), 20);
    is("training(7, 6, 0)", x.training(7, 6, 0), 9);
    is("empty then", x.count(6), 0);
    is("the first WORD", fed(0, 15).training(7, 2, 1), 15);
    is("none is needed: tries", fed(15).training(0, 1, 0), 0);
    is("none is needed", fed(15).training(0, 1, 1), -2);
    is("a WORD of 15", fed(15).training(7, 1, 0), 9);
    is("a WORD of 16", fed(16).training(7, 1, 0), -3);
    is("a WORD of 255", fed(255).training(7, 1, 1), -3);
    is("a WORD of 32", fed(0, 32).training(7, 2, 1), -3);
    is("one twice", fed(15, 0, 15).training(7, 3, 0), -3);
    is("one twice, at last", fed(0, 1, 2, 3, 4, 0).training(7, 6, 0), -3);
    is("the sixth above 15", fed(0, 1, 2, 3, 4, 16).training(7, 6, 0), -3);
    is("the seventh does not matter", fed(0, 1, 2, 3, 4, 5, 5).training(7, 6, 0), 0);
    x = fed(15, 15);
    is("-3", x.training(7, 2, 0), -3);
    is("-3 empties, too", x.count(6), 0);
    x = fed();
    Due.grief(x, 7, "p=30;o=0;o~p");
    x.nerve(8);
    Due.feed(x, 15, 14);
    is("it can't be", x.training(7, 2, 0), -4);
    is("-4 empties, too", x.count(6), 0);
    Due.feed(x, 15, 14);
    is("it can't be: the first", x.training(7, 2, 1), -4);
  }

  private static void treaty() {
    in("Promise 24");
    says("A TREATY of n by m (1 to 6 each) by the first 2 n m bytes of the tape (row by row: what the one, what the other"
        + " one gets; empty then), what 0 RESTS, 1 the first (its row times 6 and its column; none: -2), 2 BARGAINS none"
        + " would leave; NONE: no such ones, it has not so many (the tape stays).");
    AfraidInk x = fed();
    is("of an empty tape", x.treaty(1, 1, 0), -1);
    Due.feed(x, new int[20]);
    int[][] wrong = {{0, 1}, {1, 0}, {0, 0}, {7, 1}, {1, 7}, {-1, -1}, {-6, -1}, {2, 6}, {6, 2}, {6, 6}, {3, 4}, {11, 1},
        {65536, 65536}, {32768, 65536}, {MIN, 1}, {1, MIN}, {MAX, 1}, {1, MAX}};
    for (int[] size : wrong) {
      is("treaty(" + size[0] + ", " + size[1] + ", 0) of 20 bytes", x.treaty(size[0], size[1], 0), -1);
    }
    int[] whats = {-1, 3, MIN, MAX};
    for (int what : whats) {
      is("treaty(1, 1, " + what + ")", x.treaty(1, 1, what), -1);
    }
    is("the tape stays", x.count(6), 20);
    is("treaty(2, 5, 0) of 20 bytes", x.treaty(2, 5, 0), 10);
    is("empty then", x.count(6), 0);
    is("treaty(5, 2, 2) of 20 bytes", fed(new int[20]).treaty(5, 2, 2), 10);
    is("treaty(1, 1, 1)", fed(0, 0).treaty(1, 1, 1), 0);
    is("treaty(6, 6, 0) of 60 bytes", fed(new int[60]).treaty(6, 6, 0), -1);
    is("treaty(6, 6, 0) of 80 bytes", fed(new int[80]).treaty(6, 6, 0), 36);
    is("treaty(6, 5, 0) of 60 bytes", fed(new int[60]).treaty(6, 5, 0), 30);
    is("row 1 and column 0 of 2 by 2", fed(0, 0, 0, 0, 1, 1, 1, 0).treaty(2, 2, 1), 6);
    is("row 0 and column 1 of 2 by 2", fed(0, 0, 1, 1, 1, 0, 0, 0).treaty(2, 2, 1), 1);
    is("row 1 and column 1 of 2 by 3", fed(0, 0, 0, 0, 0, 0, 1, 0, 1, 1, 1, 0).treaty(2, 3, 1), 7);
    is("none", fed(1, 0, 0, 1, 0, 1, 1, 0).treaty(2, 2, 1), -2);
    is("RESTS 0", fed(1, 0, 0, 1, 0, 1, 1, 0).treaty(2, 2, 0), 0);
    int[] none = {1, 0, 0, 1, 0, 1, 1, 0, 255, 255, 255, 255, 255, 255, 255, 255, 255, 255, 255, 255};
    int[] want = {0, -2, 4};
    for (int what = 0; what < 3; what++) {
      is("bytes behind do not matter, what " + what, fed(none).treaty(2, 2, what), want[what]);
    }
    is("what the one gets is first", fed(5, 0, 0, 5).treaty(2, 1, 1), 0);
    is("what the other one gets is second", fed(5, 0, 0, 5).treaty(1, 2, 1), 1);
  }

  private static void forgery() {
    in("Promise 25");
    says("FORGERY by the first n bytes of the tape (tenths; n 1 to 9; empty then), what 0, 1 all (above, below the line),"
        + " 2, 3 one at least, without a common divisor; -3: tenths above 10; NONE: no such ones, it has not so many (the"
        + " tape stays).");
    AfraidInk x = fed();
    is("of an empty tape", x.forgery(1, 0), -1);
    Due.feed(x, 10, 5, 5, 5, 5, 5, 5, 5, 5, 11);
    int[] wrong = {0, -1, 10, 20, 21, MIN, MAX};
    for (int n : wrong) {
      is("forgery(" + n + ", 0)", x.forgery(n, 0), -1);
    }
    int[] whats = {-1, 4, MIN, MAX};
    for (int what : whats) {
      is("forgery(1, " + what + ")", x.forgery(1, what), -1);
    }
    is("the tape stays", x.count(6), 20);
    is("forgery(9, 1): the tenth does not matter", x.forgery(9, 1), 256);
    is("empty then", x.count(6), 0);
    int[] want = {2, 25, 13, 25};
    for (int what = 0; what < 4; what++) {
      is("4 tenths and 2 tenths, what " + what, fed(4, 2).forgery(2, what), want[what]);
      is("1 tenth", fed(1).forgery(1, what), what % 2 == 0 ? 1 : 10);
      is("10 tenths", fed(10).forgery(1, what), 1);
      is("no tenth", fed(0).forgery(1, what), what % 2);
      is("11 tenths", fed(11).forgery(1, what), -3);
      is("255 tenths", fed(255).forgery(1, what), -3);
      is("11 tenths at last", fed(0, 1, 2, 3, 4, 5, 6, 7, 11).forgery(9, what), -3);
    }
    x = fed(11);
    is("-3", x.forgery(1, 0), -3);
    is("-3 empties, too", x.count(6), 0);
  }

  private static void rings() {
    in("Promise 26");
    says("RINGS by the first n bytes of the tape (n 1 to 12: each 0 to n - 1 once; empty then), what 0 how many, 1 after"
        + " how many steps; -3: not each just once; NONE: no such ones, it has not so many (the tape stays).");
    AfraidInk x = fed();
    is("of an empty tape", x.rings(1, 0), -1);
    Due.feed(x, 1, 0, 2, 3, 4, 5, 6, 7, 8, 9, 10, 11, 12);
    int[] wrong = {0, -1, 13, 20, 21, 32, 33, MIN, MAX};
    for (int n : wrong) {
      is("rings(" + n + ", 0)", x.rings(n, 0), -1);
    }
    int[] whats = {-1, 2, MIN, MAX};
    for (int what : whats) {
      is("rings(2, " + what + ")", x.rings(2, what), -1);
    }
    is("the tape stays", x.count(6), 20);
    is("rings(12, 0)", x.rings(12, 0), 11);
    is("empty then", x.count(6), 0);
    is("rings(1, 0)", fed(0).rings(1, 0), 1);
    is("rings(1, 1)", fed(0).rings(1, 1), 1);
    is("rings(2, 1)", fed(1, 0, 0).rings(2, 1), 2);
    int[][] spoilt = {{1}, {255}, {0, 0}, {1, 1}, {0, 2}, {2, 0}, {0, 1, 3}, {0, 1, 255}, {32, 1, 2}, {0, 33, 2},
        {0, 1, 2, 3, 4, 5, 6, 7, 8, 9, 10, 12}, {11, 1, 2, 3, 4, 5, 6, 7, 8, 9, 10, 11},
        {0, 1, 2, 3, 4, 5, 6, 7, 8, 9, 10, 0}};
    for (int[] order : spoilt) {
      x = fed(order);
      String call = "rings of " + java.util.Arrays.toString(order);
      is(call, x.rings(order.length, 0), -3);
      is(call + " empties the tape, too", x.count(6), 0);
      is(call + ": steps", fed(order).rings(order.length, 1), -3);
    }
  }

  private static void check() {
    in("Promise 30");
    says("CHECK by the first n bytes of the tape (0 to 8; empty then; of BOTTLES that are not told 255): NONE: right; else"
        + " the first that is not so; -2: no such n, it has not so many (the tape stays).");
    AfraidInk x = fed();
    is("check(1) of an empty tape", x.check(1), -2);
    is("check(8) of an empty tape", x.check(8), -2);
    is("check(0) of an empty tape", x.check(0), -1);
    Due.feed(x, 0, 255, 255, 255, 255, 255, 255, 1, 9);
    int[] wrong = {-1, 9, 20, 21, MIN, MAX};
    for (int n : wrong) {
      is("check(" + n + ")", x.check(n), -2);
    }
    is("the tape stays", x.count(6), 20);
    is("check(8)", x.check(8), 7);
    is("empty then", x.count(6), 0);
    is("check(7)", fed(0, 255, 255, 255, 255, 255, 255, 1).check(7), -1);
    is("check(8), right", fed(0, 255, 255, 255, 255, 255, 255, 0).check(8), -1);
    is("check(1)", fed(0).check(1), -1);
    is("check(1), not so", fed(255).check(1), 0);
    is("one that is not told, by 0", fed(0, 0).check(2), 1);
    x = fed(7);
    is("check(0) of 20 bytes", x.check(0), -1);
    is("check(0) empties", x.count(6), 0);
  }
}

import java.util.ArrayList;
import java.util.List;
import java.util.function.Function;
import java.util.function.Supplier;

/** Calls that are refused, and calls that only ask, change nothing but the tape, where it is told. */
final class RefusedEdges extends Edge {
  private static final String TAPE = "a2b(c)3(de)fghijklmn";
  private static final int STAYS = 1;
  private static final int EMPTIED = 0;

  static void run() {
    in("Terms");
    says("A call that is refused (NONE, false) changes nothing but the tape, where it is told.");
    bottlesAndNumbers();
    tapes();
    emptiedTapes();
    asked();
    fullTape();
    undoneBeforeKept();
    faults();
    in("What it is");
    says("An object is used for at most 512 calls after it has been made");
    call512();
  }

  /** Three BOTTLES with a past, KEPT one DAY ago, a LETTER, a LAW, and so many times the same twenty bytes. */
  private static AfraidInk chancery(int twenties) {
    AfraidInk x = new AfraidInk();
    x.bottle(0, 0);
    x.bottle(2, 1);
    x.bottle(7, 4);
    Due.grief(x, 0, "a=30;b=8;c=25;a~b;!3");
    Due.grief(x, 2, "a=9;c=40;d=12");
    Due.grief(x, 7, "a=50;b=21;d=30;!9;c~e");
    Due.letter(x, "ab2(cd)3e");
    Due.law(x, "f5(w=2&u<5);e3(b=2|i=1);x(b=7&d%3=0)");
    x.nerve(17);
    x.seed(4711);
    x.days(2);
    x.keep();
    x.days(1);
    x.nerve(18);
    x.ink(2, 77);
    for (int k = 0; k < twenties; k++) {
      tape(x, 1, TAPE);
    }
    return x;
  }

  /** All that can be asked of it; at last the tape is read as a LETTER, and what was KEPT is UNDONE. */
  private static List<Integer> portrait(AfraidInk x) {
    List<Integer> seen = new ArrayList<>();
    look(x, seen);
    seen.add(x.letter(20));
    x.days(1);
    look(x, seen);
    seen.add(x.undo() ? 1 : 0);
    look(x, seen);
    return seen;
  }

  private static void look(AfraidInk x, List<Integer> seen) {
    for (int what = 0; what <= 8; what++) {
      seen.add(x.count(what));
    }
    for (int b = 0; b < 8; b++) {
      for (int what = 0; what < 3; what++) {
        seen.add(x.bottleIs(b, what));
      }
    }
    for (int b = 0; b < 8; b += b == 0 ? 2 : 5) {
      for (int w = 0; w < 16; w++) {
        seen.add(x.fear(b, w, 0) * 100 + x.fear(b, w, 1));
      }
    }
    for (int w = 0; w < 16; w++) {
      seen.add(x.rhyme(w));
    }
    for (int what = 0; what < 3; what++) {
      seen.add(x.tried(5, what));
    }
  }

  private static void refused(String name, int twenties, int tape, Function<AfraidInk, Integer> call, int due) {
    AfraidInk x = chancery(twenties);
    AfraidInk twin = chancery(twenties);
    if (tape == EMPTIED) {
      twin.check(0);
    }
    is(name, call.apply(x), due);
    List<Integer> got = portrait(x);
    List<Integer> want = portrait(twin);
    int places = 0;
    for (int k = 0; k < want.size(); k++) {
      places += got.get(k).equals(want.get(k)) ? 0 : 1;
    }
    is(name + " changes nothing: places that are not as they were", places, 0);
  }

  private static int of(boolean answer) {
    return answer ? 1 : 0;
  }

  private static void bottlesAndNumbers() {
    int[] noBottles = {-1, 1, 8, 34, MIN, MAX};
    for (int b : noBottles) {
      refused("ink(" + b + ", 5)", 1, STAYS, x -> of(x.ink(b, 5)), 0);
      refused("pressed(" + b + ", 5)", 1, STAYS, x -> x.pressed(b, 5), -1);
      refused("grief(" + b + ", 3)", 1, STAYS, x -> x.grief(b, 3), -1);
      refused("bottleIs(" + b + ", 0)", 1, STAYS, x -> x.bottleIs(b, 0), -1);
      refused("fear(" + b + ", 0, 0)", 1, STAYS, x -> x.fear(b, 0, 0), -1);
      refused("used(" + b + ", 0, 5)", 1, STAYS, x -> x.used(b, 0, 5), -1);
      refused("leastSalt(" + b + ")", 1, STAYS, x -> x.leastSalt(b), -1);
      refused("mixture(0, " + b + ", 0)", 1, STAYS, x -> x.mixture(0, b, 0), -1);
      refused("mixture(" + b + ", 0, 0)", 1, STAYS, x -> x.mixture(b, 0, 0), -1);
      refused("training(" + b + ", 1, 0)", 1, STAYS, x -> x.training(b, 1, 0), -1);
      if (b != 1) {
        refused("bottle(" + b + ", 0)", 1, STAYS, x -> of(x.bottle(b, 0)), 0);
      }
    }
    int[] beyond = {-1, MIN, MAX};
    for (int wrong : beyond) {
      refused("bottle(0, " + wrong + ")", 1, STAYS, x -> of(x.bottle(0, wrong)), 0);
      refused("ink(0, " + wrong + ")", 1, STAYS, x -> of(x.ink(0, wrong)), 0);
      refused("nerve(" + wrong + ")", 1, STAYS, x -> of(x.nerve(wrong)), 0);
      refused("pressed(0, " + wrong + ")", 1, STAYS, x -> x.pressed(0, wrong), -1);
      refused("days(" + wrong + ")", 1, STAYS, x -> x.days(wrong), -1);
      refused("tried(" + wrong + ", 0)", 1, STAYS, x -> x.tried(wrong, 0), -1);
      refused("tried(1, " + wrong + ")", 1, STAYS, x -> x.tried(1, wrong), -1);
      refused("fear(0, " + wrong + ", 0)", 1, STAYS, x -> x.fear(0, wrong, 0), -1);
      refused("rhyme(" + wrong + ")", 1, STAYS, x -> x.rhyme(wrong), -1);
      refused("used(0, " + wrong + ", 5)", 1, STAYS, x -> x.used(0, wrong, 5), -1);
      refused("used(0, 0, " + wrong + ")", 1, STAYS, x -> x.used(0, 0, wrong), -1);
      refused("changes(" + wrong + ")", 1, STAYS, x -> x.changes(wrong), -1);
      refused("next(" + wrong + ", 0)", 1, STAYS, x -> x.next(wrong, 0), -1);
      refused("guard(" + wrong + ")", 1, STAYS, x -> x.guard(wrong), -1);
      refused("borne(" + wrong + ")", 1, STAYS, x -> x.borne(wrong), -1);
      refused("seed(" + wrong + ")", 1, STAYS, x -> of(x.seed(wrong)), 0);
      refused("count(" + wrong + ")", 1, STAYS, x -> x.count(wrong), -1);
    }
    refused("bottle(0, 5)", 1, STAYS, x -> of(x.bottle(0, 5)), 0);
    refused("ink(0, 1000)", 1, STAYS, x -> of(x.ink(0, 1000)), 0);
    refused("nerve(100)", 1, STAYS, x -> of(x.nerve(100)), 0);
    refused("pressed(0, 65536)", 1, STAYS, x -> x.pressed(0, 65536), -1);
    refused("days(0)", 1, STAYS, x -> x.days(0), -1);
    refused("days(61)", 1, STAYS, x -> x.days(61), -1);
    refused("tried(0, 0)", 1, STAYS, x -> x.tried(0, 0), -1);
    refused("tried(61, 0)", 1, STAYS, x -> x.tried(61, 0), -1);
    refused("tried(1, 3)", 1, STAYS, x -> x.tried(1, 3), -1);
    refused("tried(1, 101)", 1, STAYS, x -> x.tried(1, 101), -1);
    refused("tried(1, 208)", 1, STAYS, x -> x.tried(1, 208), -1);
    refused("bottleIs(0, 5)", 1, STAYS, x -> x.bottleIs(0, 5), -1);
    refused("fear(0, 16, 0)", 1, STAYS, x -> x.fear(0, 16, 0), -1);
    refused("fear(0, 0, 3)", 1, STAYS, x -> x.fear(0, 0, 3), -1);
    refused("rhyme(16)", 1, STAYS, x -> x.rhyme(16), -1);
    refused("used(0, 16, 5)", 1, STAYS, x -> x.used(0, 16, 5), -1);
    refused("used(0, 0, 0)", 1, STAYS, x -> x.used(0, 0, 0), -1);
    refused("used(0, 0, 61)", 1, STAYS, x -> x.used(0, 0, 61), -1);
    refused("changes(48)", 1, STAYS, x -> x.changes(48), -1);
    refused("changes(9)", 1, STAYS, x -> x.changes(9), -4);
    refused("mixture(2, 2, 0)", 1, STAYS, x -> x.mixture(2, 2, 0), -1);
    refused("mixture(0, 2, 2)", 1, STAYS, x -> x.mixture(0, 2, 2), -1);
    refused("next(0, 0)", 1, STAYS, x -> x.next(0, 0), -1);
    refused("next(2, 0)", 1, STAYS, x -> x.next(2, 0), -1);
    refused("next(1, 2)", 1, STAYS, x -> x.next(1, 2), -1);
    refused("guard(2)", 1, STAYS, x -> x.guard(2), -1);
    refused("borne(3)", 1, STAYS, x -> x.borne(3), -1);
    refused("seed(65536)", 1, STAYS, x -> of(x.seed(65536)), 0);
    refused("count(9)", 1, STAYS, x -> x.count(9), -1);
  }

  /** No such n, or the tape has not so many: of an empty one, of twenty bytes and of a full one. */
  private static void tapes() {
    for (int twenties = 0; twenties <= 13; twenties += twenties == 0 ? 1 : 12) {
      int has = 20 * twenties;
      int[] lengths = {-1, 0, has + 1, 241, 1 << 30, MIN, MAX};
      for (int n : lengths) {
        refused("law(" + n + ") of " + has, twenties, STAYS, x -> x.law(n), -1);
        refused("grief(0, " + n + ") of " + has, twenties, STAYS, x -> x.grief(0, n), -1);
        refused("letter(" + n + ") of " + has, twenties, STAYS, x -> x.letter(n), -1);
        refused("whose(" + n + ") of " + has, twenties, STAYS, x -> x.whose(n), -1);
        refused("training(0, " + n + ", 0) of " + has, twenties, STAYS, x -> x.training(0, n, 0), -1);
        refused("treaty(" + n + ", 1, 0) of " + has, twenties, STAYS, x -> x.treaty(n, 1, 0), -1);
        refused("treaty(1, " + n + ", 0) of " + has, twenties, STAYS, x -> x.treaty(1, n, 0), -1);
        refused("forgery(" + n + ", 0) of " + has, twenties, STAYS, x -> x.forgery(n, 0), -1);
        refused("rings(" + n + ", 0) of " + has, twenties, STAYS, x -> x.rings(n, 0), -1);
        if (n != 0) {
          refused("check(" + n + ") of " + has, twenties, STAYS, x -> x.check(n), -2);
        }
      }
    }
    refused("grief(0, 121) of 260", 13, STAYS, x -> x.grief(0, 121), -1);
    refused("letter(61) of 260", 13, STAYS, x -> x.letter(61), -1);
    refused("whose(13) of 260", 13, STAYS, x -> x.whose(13), -1);
    refused("whose(11) of 20", 1, STAYS, x -> x.whose(11), -1);
    refused("training(0, 7, 0)", 1, STAYS, x -> x.training(0, 7, 0), -1);
    refused("training(0, 1, 2)", 1, STAYS, x -> x.training(0, 1, 2), -1);
    refused("training(0, 1, -1)", 1, STAYS, x -> x.training(0, 1, -1), -1);
    refused("treaty(7, 1, 0)", 1, STAYS, x -> x.treaty(7, 1, 0), -1);
    refused("treaty(1, 7, 0)", 1, STAYS, x -> x.treaty(1, 7, 0), -1);
    refused("treaty(2, 6, 0) of 20", 1, STAYS, x -> x.treaty(2, 6, 0), -1);
    refused("treaty(1, 1, 3)", 1, STAYS, x -> x.treaty(1, 1, 3), -1);
    refused("treaty(1, 1, -1)", 1, STAYS, x -> x.treaty(1, 1, -1), -1);
    refused("forgery(10, 0)", 1, STAYS, x -> x.forgery(10, 0), -1);
    refused("forgery(1, 4)", 1, STAYS, x -> x.forgery(1, 4), -1);
    refused("forgery(1, -1)", 1, STAYS, x -> x.forgery(1, -1), -1);
    refused("rings(13, 0)", 1, STAYS, x -> x.rings(13, 0), -1);
    refused("rings(1, 2)", 1, STAYS, x -> x.rings(1, 2), -1);
    refused("rings(1, -1)", 1, STAYS, x -> x.rings(1, -1), -1);
    refused("check(9)", 1, STAYS, x -> x.check(9), -2);
  }

  /** What the bytes make wrong: -3, and what can't be, empty the tape and change nothing else. */
  private static void emptiedTapes() {
    refused("whose(1) of a WORD above 15", 1, EMPTIED, x -> x.whose(1), -3);
    refused("training(0, 1, 0) of a WORD above 15", 1, EMPTIED, x -> x.training(0, 1, 0), -3);
    refused("forgery(1, 0) of tenths above 10", 1, EMPTIED, x -> x.forgery(1, 0), -3);
    refused("rings(1, 0) of another one", 1, EMPTIED, x -> x.rings(1, 0), -3);
    refused("check(1) that is not so", 1, EMPTIED, x -> x.check(1), 0);
    refused("check(0)", 1, EMPTIED, x -> x.check(0), -1);
    refused("treaty(1, 1, 0)", 1, EMPTIED, x -> x.treaty(1, 1, 0), 1);
    // c and d were tried twice on each of three DAYS: three TRIES are missing of each.
    refused("training that is done", 0, EMPTIED, x -> fedTraining(x, 2, 0, 2, 3, 4), 6);
    refused("training's first", 0, EMPTIED, x -> fedTraining(x, 2, 1, 2, 3, 4), 2);
    // USED to b, the MIXED one has 59 of a: the mean, rounded up, less SALT 9 is 21, and NERVE 18.
    refused("training that can't be", 0, EMPTIED, x -> fedTraining(x, 7, 0, 1), -4);
    refused("training that can't be: the first", 0, EMPTIED, x -> fedTraining(x, 7, 1, 1), -4);
  }

  private static int fedTraining(AfraidInk x, int b, int what, int... words) {
    Due.feed(x, words);
    return x.training(b, words.length, what);
  }

  /** Calls that only ask: what they answer is tested elsewhere. */
  private static void asked() {
    asks("tried(60, 0)", x -> x.tried(60, 0));
    asks("tried(60, 202)", x -> x.tried(60, 202));
    asks("used(0, 0, 60)", x -> x.used(0, 0, 60));
    asks("changes(100)", x -> x.changes(100));
    asks("changes(0)", x -> x.changes(0));
    asks("leastSalt(0)", x -> x.leastSalt(0));
    asks("mixture(0, 2, 0)", x -> x.mixture(0, 2, 0));
    asks("next(133, 0)", x -> x.next(133, 0));
    asks("guard(0)", x -> x.guard(0));
    asks("borne(0)", x -> x.borne(0));
    asks("bottleIs(7, 3)", x -> x.bottleIs(7, 3));
    asks("fear(7, 3, 2)", x -> x.fear(7, 3, 2));
    asks("rhyme(0)", x -> x.rhyme(0));
    asks("count(6)", x -> x.count(6));
  }

  private static void asks(String name, Function<AfraidInk, Integer> call) {
    refused(name, 1, STAYS, call, call.apply(chancery(1)));
  }

  private static void fullTape() {
    refused("feed of a full tape", 13, STAYS, x -> x.feed(-1, 0, 1, 2, 3), -1);
    AfraidInk x = chancery(13);
    is("once more", x.feed(0, 0, 0, 0, 0), -1);
    is("260 bytes are there", x.count(6), 260);
    is("as they were", x.letter(20), 19);
  }

  private static void undoneBeforeKept() {
    AfraidInk x = new AfraidInk();
    x.bottle(3, 2);
    Due.grief(x, 3, "a=7;a~b;!5");
    Due.letter(x, "ab");
    x.days(2);
    x.feed(1, 2, 3, 4, 5);
    is("undo() before anything was KEPT", x.undo(), false);
    int[] counts = {2, 8, 20, 0, 4, 0, 20, x.count(7), 2};
    for (int what = 0; what < counts.length; what++) {
      is("it changes nothing: count(" + what + ")", x.count(what), counts[what]);
    }
    is("nor the BOTTLE", x.bottleIs(3, 4) + 10 * x.bottleIs(3, 1) + x.bottleIs(3, 2), 7 + 50 + 995);
    is("nor its TRIES", x.fear(3, 0, 1) + x.fear(3, 1, 1), 4);
    is("nor RHYMES", x.rhyme(0), 1);
  }

  /** A FAULT leaves all but the tape: GRIEF does nothing, THE LAW and the LETTER of before stay. */
  private static void faults() {
    String[] griefs = {"q", "a=9;b~c;!9;#0;z", "a=100", "b=1;".repeat(20) + "a"};
    for (String text : griefs) {
      unchanged("grief " + text, () -> chancery(0), x -> Due.grief(x, 0, text));
    }
    String[] letters = {"q", "2(pp", "(((p)))", "7(7p)", "p".repeat(49)};
    for (String text : letters) {
      unchanged("letter " + text, () -> chancery(0), x -> Due.letter(x, text));
    }
    String[] laws = {"q", "x(b<9);", "x(b<9);f123456(b=0)", "x(b<9);x(!!!!!!b=0)", "x(b<9);".repeat(16) + "x"};
    for (String text : laws) {
      unchanged("law " + text, () -> chancery(0), x -> Due.law(x, text));
    }
  }

  private static void unchanged(String name, Supplier<AfraidInk> made, Function<AfraidInk, Integer> call) {
    AfraidInk x = made.get();
    is(name + " has a FAULT", call.apply(x) <= -1000, true);
    is(name + " empties the tape", x.count(6), 0);
    is(name + " changes nothing", portrait(x).equals(portrait(made.get())), true);
  }

  private static void call512() {
    AfraidInk x = new AfraidInk();
    x.bottle(0, 3);
    x.feed(0x39610000, 0, 0, 0, 0);
    x.letter(2);
    for (int call = 4; call <= 510; call++) {
      boolean even = call % 2 == 0;
      is("call " + call, even ? x.feed(0, 0, 0, 0, 0) : x.check(0), even ? 20 : -1);
    }
    is("call 511", x.days(1), 9);
    is("call 512", x.count(4), 9);
  }
}

/** The chapters of the promises: of each call the least and the greatest that it takes, and the ones just beyond. */
final class PromiseEdges extends Edge {
  static void run() {
    newObject();
    bottle();
    ink();
    nerve();
    pressed();
    feed();
    law();
    grief();
    letter();
    days();
    tried();
    bottleIs();
    fear();
    rhyme();
    used();
    changes();
    leastSalt();
    mixture();
    TapePromiseEdges.run();
    next();
    guard();
    borne();
    seed();
    keep();
    undo();
    count();
  }

  private static AfraidInk bottleAt(int b, int kind) {
    AfraidInk x = new AfraidInk();
    x.bottle(b, kind);
    return x;
  }

  private static void newObject() {
    in("Promise 1");
    says("No BOTTLES, LETTER, LAW; THE SEED 1.");
    AfraidInk x = new AfraidInk();
    int[] counts = {0, 0, 20, 0, 0, 0, 0, 1, 0};
    for (int what = 0; what < counts.length; what++) {
      is("count(" + what + ")", x.count(what), counts[what]);
    }
    for (int b = 0; b < 8; b++) {
      is("bottleIs(" + b + ", 0)", x.bottleIs(b, 0), -1);
      is("fear(" + b + ", 0, 0)", x.fear(b, 0, 0), -1);
      is("ink(" + b + ", 1)", x.ink(b, 1), false);
      is("pressed(" + b + ", 1)", x.pressed(b, 1), -1);
      is("used(" + b + ", 0, 1)", x.used(b, 0, 1), -1);
      is("leastSalt(" + b + ")", x.leastSalt(b), -1);
      is("tried(1, 100 + " + b + ")", x.tried(1, 100 + b), -1);
      is("tried(1, 200 + " + b + ")", x.tried(1, 200 + b), -1);
      is("next(1 << " + b + ", 0)", x.next(1 << b, 0), -1);
    }
    is("changes(0)", x.changes(0), -4);
    is("changes(100)", x.changes(100), 0);
    is("changes(101)", x.changes(101), 0);
    is("mixture(0, 1, 0)", x.mixture(0, 1, 0), -1);
    is("guard(0)", x.guard(0), 0);
    is("borne(0)", x.borne(0), 65535);
    is("tried(60, 0)", x.tried(60, 0), 0);
    is("tried(60, 1)", x.tried(60, 1), 0);
    is("tried(60, 2)", x.tried(60, 2), 0);
    is("undo()", x.undo(), false);
    is("days(60)", x.days(60), 0);
    is("THE DAY then", x.count(0), 60);
    is("PICTURES then", x.count(3), 0);
    is("X stays without a WORD", x.count(7), 1);
    is("keep()", x.keep(), 60);
  }

  private static void bottle() {
    in("Promise 2");
    says("A BOTTLE of a KIND (in place of the one before: all as at first): true; false: no such ones.");
    AfraidInk x = new AfraidInk();
    int[] wrong = {-1, 8, 15, 16, 31, 32, 64, 255, 256, MIN, MAX};
    for (int b : wrong) {
      is("bottle(" + b + ", 0)", x.bottle(b, 0), false);
    }
    int[] wrongKinds = {-1, 5, 8, 255, 256, MIN, MAX};
    for (int kind : wrongKinds) {
      is("bottle(0, " + kind + ")", x.bottle(0, kind), false);
    }
    is("none is told", x.count(1), 0);
    is("bottle(0, 0)", x.bottle(0, 0), true);
    is("bottle(7, 4)", x.bottle(7, 4), true);
    is("bottle(0, 4)", x.bottle(0, 4), true);
    is("bottle(7, 0)", x.bottle(7, 0), true);
    is("told", x.count(1), 129);
    Due.grief(x, 0, "a=99;p=99;!99");
    Due.letter(x, "8a8p");
    x.ink(7, 0);
    x.days(1);
    is("in place: false", x.bottle(0, 5), false);
    is("and all is as it was", x.bottleIs(0, 4) + x.bottleIs(0, 1) + x.fear(0, 0, 1) + x.bottleIs(0, 2), 198 + 99 + 8
        + 983);
    is("in place of the one before", x.bottle(0, 1), true);
    int[] first = {1, 0, 999, 65535, 0};
    for (int what = 0; what < first.length; what++) {
      is("as at first: bottleIs(0, " + what + ")", x.bottleIs(0, what), first[what]);
    }
    for (int w = 0; w < 16; w++) {
      is("as at first: DREAD of " + w, x.fear(0, w, 0), 0);
      is("as at first: TRIES of " + w, x.fear(0, w, 1), 0);
    }
    is("another one is as it was", x.bottleIs(7, 2), 0);
  }

  private static void ink() {
    in("Promise 3");
    says("INK of a told BOTTLE: true; false: no such ones.");
    AfraidInk x = bottleAt(7, 0);
    int[] words = {-1, 1000, MIN, MAX};
    for (int wrong : words) {
      is("ink(7, " + wrong + ")", x.ink(7, wrong), false);
    }
    int[] bottles = {-1, 0, 6, 8, 15, 39, MIN, MAX};
    for (int wrong : bottles) {
      is("ink(" + wrong + ", 5)", x.ink(wrong, 5), false);
    }
    is("INK stays", x.bottleIs(7, 2), 999);
    int[] right = {0, 1, 998, 999};
    for (int one : right) {
      is("ink(7, " + one + ")", x.ink(7, one), true);
      is("INK is " + one, x.bottleIs(7, 2), one);
    }
  }

  private static void nerve() {
    in("Promise 4");
    says("NERVE: true; false: no such number.");
    AfraidInk x = new AfraidInk();
    int[] wrong = {-1, 100, MIN, MAX};
    for (int one : wrong) {
      is("nerve(" + one + ")", x.nerve(one), false);
      is("NERVE stays", x.count(2), 20);
    }
    int[] right = {0, 1, 98, 99};
    for (int one : right) {
      is("nerve(" + one + ")", x.nerve(one), true);
      is("NERVE is " + one, x.count(2), one);
    }
  }

  private static void pressed() {
    in("Promise 5");
    says("PRESSED: a told BOTTLE by a seed: DREAD of all WORDS added up; NONE: no such ones.");
    AfraidInk x = bottleAt(7, 3);
    int[] seeds = {-1, 65536, MIN, MAX};
    for (int wrong : seeds) {
      is("pressed(7, " + wrong + ")", x.pressed(7, wrong), -1);
    }
    int[] bottles = {-1, 0, 6, 8, 39, MIN, MAX};
    for (int wrong : bottles) {
      is("pressed(" + wrong + ", 1)", x.pressed(wrong, 1), -1);
    }
    is("nothing is PRESSED", x.bottleIs(7, 4), 0);
    int[] right = {0, 65535};
    for (int seed : right) {
      int sum = x.pressed(7, seed);
      int added = 0;
      for (int w = 0; w < 16; w++) {
        added += x.fear(7, w, 0);
      }
      is("added up by seed " + seed, sum, added);
      is("bottleIs(7, 4) by seed " + seed, x.bottleIs(7, 4), added);
      is("it is more than 0", sum > 0, true);
    }
  }

  private static void feed() {
    in("Promise 6");
    says("Twenty bytes come behind the tape, the highest of each int first: how many it has; NONE if that would be more"
        + " than 260.");
    AfraidInk x = new AfraidInk();
    for (int k = 1; k <= 13; k++) {
      is("feed " + k, x.feed(0x61616161, 0x61616161, 0x61616161, 0x61616161, 0x61616161), 20 * k);
      is("count(6)", x.count(6), 20 * k);
    }
    is("more than 260", x.feed(-1, -1, -1, -1, -1), -1);
    is("once more", x.feed(0, 0, 0, 0, 0), -1);
    is("260 stay", x.count(6), 260);
    is("48 of them are a", x.letter(48), 48);
    is("empty then", x.count(6), 0);
    is("feed again", x.feed(0x61626364, 0x65666768, 0x696A6B6C, 0x6D6E6F70, 0x71808182), 20);
    x.bottle(0, 3);
    is("16 WORDS in their order", x.letter(16), 16);
    for (int w = 0; w < 16; w++) {
      Due.law(x, "x(i=" + w + "&w=" + w + ")");
      is("WORD " + w + " at its place", x.tried(1, 1), 1);
    }
    x.feed(0x61626364, 0x65666768, 0x696A6B6C, 0x6D6E6F70, 0x71808182);
    is("the seventeenth byte", x.letter(17), -1016);
    x.feed(0, 0, 0, 0, 0);
    is("behind the tape", x.feed(0x01000000, 0, 0, 0, 0), 40);
    is("the first ones first", x.check(1), -1);
    Due.feed(x, 0, 1, 2, 3, 4, 5, 6, 7, 8, 9, 10, 11);
    is("bytes that are 0 are bytes", x.rings(12, 0), 12);
    x.feed(0x00FFFFFF, -1, -1, -1, -1);
    is("bytes of 255", x.check(8), -1);
    Due.grief(x, 0, "!99");
    x.feed(0x63FFFFFF, MIN, MAX, -1, 0);
    is("bytes of 255 behind 99", x.check(4), -1);
  }

  private static void law() {
    in("Promise 7");
    says("THE LAW by the first n bytes of the tape (1 to 240; empty then), in place of the one before: how many RULES; a"
        + " FAULT: -1000 times its number, less its place (the one before stays); NONE: no such n, it has not so many"
        + " (the tape stays).");
    AfraidInk x = bottleAt(0, 0);
    Due.letter(x, "a");
    is("of an empty tape", x.law(1), -1);
    Due.law(x, "x(b=0);x(b=1)");
    is("RULES", x.count(5), 2);
    tape(x, 1, "x(b=7)" + "|".repeat(14));
    int[] wrong = {0, -1, 21, 240, 241, 256, 262, MIN, MAX};
    for (int n : wrong) {
      is("law(" + n + ") of 20 bytes", x.law(n), -1);
    }
    is("the tape stays", x.count(6), 20);
    is("and THE LAW", x.tried(1, 1), 1);
    is("law(20) of 20 bytes: place 6", x.law(20), -1006);
    is("empty then", x.count(6), 0);
    is("the one before stays", x.count(5), 2);
    is("and shuts", x.tried(1, 1), 1);
    tape(x, 1, "x(b=7)");
    is("law(6)", x.law(6), 1);
    is("empty behind it", x.count(6), 0);
    is("in place of the one before", x.count(5), 1);
    is("and opens", x.tried(1, 1), 0);
    inPlaceOfTheOneBefore();
    tape(x, 1, "x");
    is("law(1)", x.law(1), -1001);
    String longest = "x(" + "b=1|".repeat(58) + "b=000)";
    tape(x, 12, longest);
    is("law(240) of 240 bytes", x.law(240), 1);
    is("empty behind 240", x.count(6), 0);
    tape(x, 11, longest.substring(0, 220));
    is("law(240) of 220 bytes", x.law(240), -1);
    is("law(221) of 220 bytes", x.law(221), -1);
    is("220 stay", x.count(6), 220);
    is("law(220) of 220 bytes", x.law(220), -1220);
    tape(x, 13, longest);
    is("law(241) of 260 bytes", x.law(241), -1);
    is("law(260) of 260 bytes", x.law(260), -1);
    is("260 stay", x.count(6), 260);
    is("law(240) of 260 bytes", x.law(240), 1);
    is("all 260 are gone", x.count(6), 0);
  }

  /** Nothing is left of a LAW of before, and it takes up no room. */
  private static void inPlaceOfTheOneBefore() {
    AfraidInk x = bottleAt(0, 0);
    Due.letter(x, "a");
    String[] before = {"x(b=0)", "f99(b=0)", "e0(b=0)"};
    for (String rule : before) {
      String sixteen = (rule + ";").repeat(15) + rule;
      is("16 times " + rule, Due.law(x, sixteen), 16);
      is("a PICTURE by it", x.tried(1, 1), 1);
      is("a FAULT", Due.law(x, sixteen + ";"), -1001 - sixteen.length());
      is("one RULE in place of 16", Due.law(x, "x(b=7)"), 1);
      is("none by that", x.tried(1, 1), 0);
    }
    String longest = "x(" + "b=1|".repeat(58) + "b=000)";
    for (int k = 0; k < 10; k++) {
      is("240 bytes once more", Due.law(x, longest), 1);
      is("it shuts", x.tried(1, 1), 1);
    }
  }

  private static void grief() {
    in("Promise 8");
    says("GRIEF of a told BOTTLE by the first n bytes of the tape (1 to 120; empty then): how many LINES; a FAULT; NONE:"
        + " no such ones, it has not so many (the tape stays).");
    AfraidInk x = bottleAt(7, 0);
    is("of an empty tape", x.grief(7, 1), -1);
    tape(x, 1, "a=5;b=6" + "|".repeat(13));
    int[] wrong = {0, -1, 21, 120, 121, 256, 260, MIN, MAX};
    for (int n : wrong) {
      is("grief(7, " + n + ") of 20 bytes", x.grief(7, n), -1);
    }
    int[] bottles = {-1, 0, 6, 8, 39, MIN, MAX};
    for (int b : bottles) {
      is("grief(" + b + ", 3)", x.grief(b, 3), -1);
    }
    is("the tape stays", x.count(6), 20);
    is("nothing is done", x.bottleIs(7, 4), 0);
    is("grief(7, 20) of 20 bytes: place 7", x.grief(7, 20), -1007);
    is("empty then", x.count(6), 0);
    is("nothing is done by a FAULT", x.bottleIs(7, 4), 0);
    tape(x, 1, "a=5;b=6");
    is("grief(7, 7)", x.grief(7, 7), 2);
    is("empty behind it", x.count(6), 0);
    is("DREAD", x.bottleIs(7, 4), 11);
    tape(x, 1, "a");
    is("grief(7, 1)", x.grief(7, 1), -1001);
    String most = "a=11;".repeat(19) + "b=22";
    tape(x, 6, most);
    is("grief(7, 120) of 120 bytes", x.grief(7, 120), -1099);
    tape(x, 5, most);
    is("grief(7, 120) of 100 bytes", x.grief(7, 120), -1);
    is("grief(7, 101) of 100 bytes", x.grief(7, 101), -1);
    is("100 stay", x.count(6), 100);
    is("grief(7, 100) of 100 bytes", x.grief(7, 100), -1099);
    tape(x, 13, most);
    is("grief(7, 121) of 260 bytes", x.grief(7, 121), -1);
    is("260 stay", x.count(6), 260);
    is("grief(7, 99) of 260 bytes", x.grief(7, 99), 20);
    is("all 260 are gone", x.count(6), 0);
  }

  private static void letter() {
    in("Promise 9");
    says("A LETTER by the first n bytes of the tape (1 to 60; empty then): how many WORDS; a FAULT (the one before stays);"
        + " NONE: no such n, it has not so many (the tape stays).");
    AfraidInk x = bottleAt(0, 3);
    is("of an empty tape", x.letter(1), -1);
    Due.letter(x, "ab");
    tape(x, 1, "c".repeat(19) + "q");
    int[] wrong = {0, -1, 21, 60, 61, 256, 276, MIN, MAX};
    for (int n : wrong) {
      is("letter(" + n + ") of 20 bytes", x.letter(n), -1);
    }
    is("the tape stays", x.count(6), 20);
    is("and the LETTER", x.count(8), 2);
    is("letter(20) of 20 bytes: place 19", x.letter(20), -1019);
    is("empty then", x.count(6), 0);
    is("the one before stays", x.count(8), 2);
    x.days(1);
    is("a is in it", x.fear(0, 0, 1), 1);
    is("c is not", x.fear(0, 2, 1), 0);
    tape(x, 1, "c".repeat(19) + "q");
    is("letter(19)", x.letter(19), 19);
    is("empty behind it", x.count(6), 0);
    is("WORDS", x.count(8), 19);
    tape(x, 1, "p");
    is("letter(1)", x.letter(1), 1);
    tape(x, 3, "(a)".repeat(20));
    is("letter(60) of 60 bytes", x.letter(60), 20);
    tape(x, 2, "a".repeat(40));
    is("letter(60) of 40 bytes", x.letter(60), -1);
    is("letter(41) of 40 bytes", x.letter(41), -1);
    is("40 stay", x.count(6), 40);
    is("letter(40) of 40 bytes", x.letter(40), 40);
    tape(x, 13, "(a)".repeat(20) + "b");
    is("letter(61) of 260 bytes", x.letter(61), -1);
    is("260 stay", x.count(6), 260);
    is("letter(60) of 260 bytes", x.letter(60), 20);
    is("all 260 are gone", x.count(6), 0);
  }

  private static void days() {
    in("Promise 10");
    says("DAYS (1 to 60; as many as can) go by: how many WORDS were WRITTEN; NONE: no such n.");
    AfraidInk x = bottleAt(0, 3);
    Due.letter(x, "2a");
    int[] wrong = {0, -1, 61, MIN, MAX};
    for (int n : wrong) {
      is("days(" + n + ")", x.days(n), -1);
    }
    is("none went by", x.count(0) + x.count(3) + x.count(4), 0);
    is("X stays", x.count(7), 1);
    is("days(1)", x.days(1), 2);
    is("THE DAY", x.count(0), 1);
    is("days(60)", x.days(60), 120);
    is("THE DAY then", x.count(0), 61);
    is("WRITTEN", x.count(4), 122);
    Due.letter(x, "b");
    for (int k = 0; k < 165; k++) {
      x.days(60);
    }
    x.ink(0, 999);
    is("THE DAY 9961", x.count(0), 9961);
    is("as many as can: 38", x.days(60), 38);
    is("THE DAY 9999", x.count(0), 9999);
    is("none can", x.days(60), 0);
    is("no such n, even so", x.days(61), -1);
  }

  private static void tried() {
    in("Promise 11");
    says("DAYS (1 to 60; as many as can) that are tried, what 0 WORDS WRITTEN in them, 1 PICTURES, 2 how often a BOTTLE is"
        + " USED to a WORD, 100 + b INK, 200 + b DREAD of all WORDS added up of told BOTTLE b then; NONE: no such ones.");
    AfraidInk x = bottleAt(0, 0);
    x.bottle(7, 0);
    Due.grief(x, 0, "a=30;a~b");
    Due.grief(x, 7, "a=40;p=7");
    Due.letter(x, "a");
    int[] days = {0, -1, 61, MIN, MAX};
    for (int n : days) {
      is("tried(" + n + ", 0)", x.tried(n, 0), -1);
      is("tried(" + n + ", 100)", x.tried(n, 100), -1);
    }
    int[] whats = {-1, 3, 50, 99, 101, 106, 108, 110, 199, 201, 206, 208, 299, 300, 307, 1000, MIN, MIN + 100, MIN + 200,
        MAX};
    for (int what : whats) {
      is("tried(1, " + what + ")", x.tried(1, what), -1);
    }
    int[] asked = {0, 1, 2, 100, 107, 200, 207};
    int[] one = {0, 1, 0, 998, 999, 30, 47};
    int[] sixty = {51, 9, 6, 939, 999, 54, 47};
    for (int k = 0; k < asked.length; k++) {
      is("tried(1, " + asked[k] + ")", x.tried(1, asked[k]), one[k]);
      is("tried(60, " + asked[k] + ")", x.tried(60, asked[k]), sixty[k]);
    }
    is("nothing is changed", x.count(0) + x.count(3) + x.count(4), 0);
    for (int k = 0; k < 166; k++) {
      x.days(60);
    }
    x.days(38);
    x.bottle(0, 0);
    is("as many as can: one", x.tried(60, 0), 1);
    is("INK then", x.tried(60, 100), 998);
  }

  private static void bottleIs() {
    in("Promise 12");
    says("Of a told BOTTLE, what 0 KIND, 1 SALT, 2 INK, 3 WORDS it BEARS (bits), 4 DREAD of all added up; NONE for"
        + " others.");
    AfraidInk x = bottleAt(7, 4);
    Due.grief(x, 7, "a=99;p=99;!99");
    int[] want = {4, 99, 999, 65535, 198};
    for (int what = 0; what < want.length; what++) {
      is("bottleIs(7, " + what + ")", x.bottleIs(7, what), want[what]);
    }
    Due.grief(x, 7, "!0;b=99;c=99;d=99;e=99;f=99;g=99;h=99;i=99;j=99;k=99;l=99;m=99;n=99;o=99");
    is("it BEARS none", x.bottleIs(7, 3), 0);
    is("the greatest DREAD", x.bottleIs(7, 4), 16 * 99);
    Due.grief(x, 7, "p=0");
    is("it BEARS p", x.bottleIs(7, 3), 32768);
    int[] whats = {-1, 5, MIN, MAX};
    for (int what : whats) {
      is("bottleIs(7, " + what + ")", x.bottleIs(7, what), -1);
    }
    int[] bottles = {-1, 0, 6, 8, 39, MIN, MAX};
    for (int b : bottles) {
      is("bottleIs(" + b + ", 0)", x.bottleIs(b, 0), -1);
    }
  }

  private static void fear() {
    in("Promise 13");
    says("Of a WORD (0 to 15) for a told BOTTLE, what 0 DREAD, 1 TRIES, 2 SHRINKING; NONE: no such ones.");
    AfraidInk x = bottleAt(7, 1);
    Due.letter(x, "8p3a");
    x.days(1);
    Due.grief(x, 7, "p=99;a=6;!5");
    int[] first = {6, 3, 7};
    int[] last = {99, 8, 99};
    for (int what = 0; what < 3; what++) {
      is("fear(7, 0, " + what + ")", x.fear(7, 0, what), first[what]);
      is("fear(7, 15, " + what + ")", x.fear(7, 15, what), last[what]);
    }
    int[] words = {-1, 16, 31, 256, MIN, MAX};
    for (int w : words) {
      is("fear(7, " + w + ", 0)", x.fear(7, w, 0), -1);
    }
    int[] whats = {-1, 3, MIN, MAX};
    for (int what : whats) {
      is("fear(7, 0, " + what + ")", x.fear(7, 0, what), -1);
    }
    int[] bottles = {-1, 0, 6, 8, 39, MIN, MAX};
    for (int b : bottles) {
      is("fear(" + b + ", 0, 0)", x.fear(b, 0, 0), -1);
    }
  }

  private static void rhyme() {
    in("Promise 14");
    says("RHYME of a WORD (0 to 15; itself: none); NONE: no such WORD.");
    AfraidInk x = bottleAt(0, 0);
    is("rhyme(0): none", x.rhyme(0), 0);
    is("rhyme(15): none", x.rhyme(15), 15);
    Due.grief(x, 0, "a~p");
    is("rhyme(0)", x.rhyme(0), 15);
    is("rhyme(15)", x.rhyme(15), 0);
    int[] words = {-1, 16, 17, 32, 256, MIN, MAX};
    for (int w : words) {
      is("rhyme(" + w + ")", x.rhyme(w), -1);
    }
  }

  private static void used() {
    in("Promise 15");
    says("USED: a told BOTTLE to a WORD in n DAYS (1 to 60; 0: it BEARS it); -2: not in these; NONE: no such ones.");
    AfraidInk x = bottleAt(7, 0);
    Due.grief(x, 7, "a=21;p=21");
    Due.letter(x, "a");
    is("0: it BEARS it", x.used(7, 1, 1), 0);
    is("-2: not in these 8", x.used(7, 0, 8), -2);
    is("in 9", x.used(7, 0, 9), 9);
    is("in 60", x.used(7, 0, 60), 9);
    is("-2: p, not in 60", x.used(7, 15, 60), -2);
    Due.law(x, "x(d<51|d>59)");
    is("in the last of 60", x.used(7, 0, 60), 60);
    is("not in 59", x.used(7, 0, 59), -2);
    int[] days = {0, -1, 61, MIN, MAX};
    for (int n : days) {
      is("used(7, 0, " + n + ")", x.used(7, 0, n), -1);
      is("used(7, 1, " + n + ")", x.used(7, 1, n), -1);
    }
    int[] words = {-1, 16, 256, MIN, MAX};
    for (int w : words) {
      is("used(7, " + w + ", 1)", x.used(7, w, 1), -1);
    }
    int[] bottles = {-1, 0, 6, 8, 39, MIN, MAX};
    for (int b : bottles) {
      is("used(" + b + ", 0, 1)", x.used(b, 0, 1), -1);
    }
    is("nothing is changed", x.fear(7, 0, 1) + x.count(0), 0);
  }

  private static void changes() {
    in("Promise 16");
    says("CHANGES, what 100 how many, 101 PICTURES, else the BOTTLE for the WORD at place what (0 to 47; a PICTURE: -2);"
        + " -4: no such place; NONE: no such what.");
    AfraidInk x = bottleAt(7, 0);
    Due.grief(x, 7, "p=99");
    is("no LETTER: place 0", x.changes(0), -4);
    is("no LETTER: place 47", x.changes(47), -4);
    Due.letter(x, "ap");
    is("place 0", x.changes(0), 7);
    is("place 1", x.changes(1), -2);
    is("place 2", x.changes(2), -4);
    is("place 47", x.changes(47), -4);
    is("how many", x.changes(100), 0);
    is("PICTURES", x.changes(101), 1);
    Due.letter(x, "9a9a9a9a9apa");
    is("place 47 of 47", x.changes(47), -4);
    is("place 46 of 47", x.changes(46), 7);
    Due.letter(x, "9a9a9a9a9ap2a");
    is("place 47 of 48", x.changes(47), 7);
    is("place 45 of 48", x.changes(45), -2);
    int[] whats = {-1, 48, 49, 99, 102, 147, 256, MIN, MAX};
    for (int what : whats) {
      is("changes(" + what + ")", x.changes(what), -1);
    }
  }

  private static void leastSalt() {
    in("Promise 17");
    says("LEAST SALT of a told BOTTLE; NONE: no such one.");
    AfraidInk x = bottleAt(7, 0);
    Due.grief(x, 7, "a=99");
    Due.letter(x, "a");
    is("leastSalt(7)", x.leastSalt(7), 79);
    int[] bottles = {-1, 0, 6, 8, 39, MIN, MAX};
    for (int b : bottles) {
      is("leastSalt(" + b + ")", x.leastSalt(b), -1);
    }
  }

  private static void mixture() {
    in("Promise 18");
    says("A MIXTURE of two told BOTTLES (not the same), what 0 the least i (none: -2), 1 by how many i; NONE: no such"
        + " ones.");
    AfraidInk x = bottleAt(7, 0);
    x.bottle(0, 0);
    Due.grief(x, 7, "a=99");
    Due.letter(x, "a");
    is("mixture(0, 7, 0)", x.mixture(0, 7, 0), 7);
    is("mixture(0, 7, 1)", x.mixture(0, 7, 1), 2);
    is("mixture(7, 0, 0)", x.mixture(7, 0, 0), 0);
    is("the same", x.mixture(7, 7, 0), -1);
    is("the same first one", x.mixture(0, 0, 1), -1);
    int[] bottles = {-1, 1, 6, 8, 39, MIN, MAX};
    for (int b : bottles) {
      is("mixture(0, " + b + ", 0)", x.mixture(0, b, 0), -1);
      is("mixture(" + b + ", 0, 1)", x.mixture(b, 0, 1), -1);
    }
    int[] whats = {-1, 2, MIN, MAX};
    for (int what : whats) {
      is("mixture(0, 7, " + what + ")", x.mixture(0, 7, what), -1);
    }
    Due.grief(x, 0, "a=99");
    is("none", x.mixture(0, 7, 0), -2);
    is("by none", x.mixture(0, 7, 1), 0);
  }

  private static void next() {
    in("Promise 20");
    says("NEXT of some told BOTTLES (bits, at least one), what 0 the WORD, 1 how great; NONE: no such ones.");
    AfraidInk x = bottleAt(7, 0);
    x.bottle(0, 0);
    Due.grief(x, 7, "p=99");
    is("both: the WORD", x.next(129, 0), 15);
    is("both: how great", x.next(129, 1), 1);
    is("one", x.next(1, 0), 0);
    is("the last one", x.next(128, 1), 1);
    int[] bottles = {0, 2, 3, 64, 255, 256, 257, 129 + 256, -1, MIN, MIN + 1, MAX};
    for (int bits : bottles) {
      is("next(" + bits + ", 0)", x.next(bits, 0), -1);
      is("next(" + bits + ", 1)", x.next(bits, 1), -1);
    }
    int[] whats = {-1, 2, MIN, MAX};
    for (int what : whats) {
      is("next(129, " + what + ")", x.next(129, what), -1);
    }
  }

  private static void guard() {
    in("Promise 21");
    says("A GUARD, what 0 how many, 1 which (bits); NONE: no such what.");
    AfraidInk x = bottleAt(7, 0);
    x.bottle(0, 0);
    Due.grief(x, 7, "o=99;p=99");
    is("how many", x.guard(0), 1);
    is("which", x.guard(1), 16384);
    int[] whats = {-1, 2, MIN, MAX};
    for (int what : whats) {
      is("guard(" + what + ")", x.guard(what), -1);
    }
  }

  private static void borne() {
    in("Promise 23");
    says("BORNE, what 0 by all told BOTTLES, 1 by none (bits of WORDS; no BOTTLES: 65535 both), 2 how many twos of"
        + " RHYMES; NONE: no such what.");
    AfraidInk x = new AfraidInk();
    is("no BOTTLES: by all", x.borne(0), 65535);
    is("no BOTTLES: by none", x.borne(1), 65535);
    x.bottle(7, 0);
    is("one BOTTLE: by all", x.borne(0), 65535);
    is("one BOTTLE: by none", x.borne(1), 0);
    Due.grief(x, 7, "p=99;a~p");
    is("but p", x.borne(0), 32767);
    is("p", x.borne(1), 32768);
    is("twos", x.borne(2), 1);
    int[] whats = {-1, 3, MIN, MAX};
    for (int what : whats) {
      is("borne(" + what + ")", x.borne(what), -1);
    }
  }

  private static void seed() {
    in("Promise 27");
    says("THE SEED (0 to 65535; X, too): true; false: no such number.");
    AfraidInk x = new AfraidInk();
    int[] wrong = {-1, 65536, MIN, MAX};
    for (int one : wrong) {
      is("seed(" + one + ")", x.seed(one), false);
      is("X stays", x.count(7), 1);
    }
    int[] right = {0, 1, 65534, 65535};
    for (int one : right) {
      is("seed(" + one + ")", x.seed(one), true);
      is("X is " + one, x.count(7), one);
    }
  }

  private static void keep() {
    in("Promise 28");
    says("KEPT: THE DAY.");
    AfraidInk x = new AfraidInk();
    is("on the first DAY", x.keep(), 0);
    x.days(1);
    is("on the next", x.keep(), 1);
    x.days(60);
    is("again", x.keep(), 61);
  }

  private static void undo() {
    in("Promise 29");
    says("UNDONE: true; false: none was KEPT.");
    AfraidInk x = bottleAt(7, 1);
    x.nerve(33);
    is("none was KEPT", x.undo(), false);
    is("nothing is changed: told", x.count(1), 128);
    is("nothing is changed: NERVE", x.count(2), 33);
    is("none is KEPT by that", x.undo(), false);
    x.keep();
    is("at once", x.undo(), true);
    is("NERVE as KEPT", x.count(2), 33);
    x.nerve(0);
    is("UNDONE", x.undo(), true);
    is("NERVE then", x.count(2), 33);
    is("and again", x.undo(), true);
    AfraidInk y = new AfraidInk();
    y.keep();
    y.bottle(0, 0);
    y.days(1);
    is("what was KEPT first", y.undo(), true);
    is("no BOTTLES, DAY 0", y.count(1) + y.count(0), 0);
  }

  private static void count() {
    in("Promise 31");
    says("0 THE DAY, 1 told BOTTLES (bits), 2 NERVE, 3 PICTURES, 4 WRITTEN, 5 RULES, 6 bytes of the tape, 7 X, 8 WORDS of"
        + " the LETTER. NONE for others.");
    AfraidInk x = new AfraidInk();
    for (int b = 0; b < 8; b++) {
      x.bottle(b, 3);
    }
    is("all told", x.count(1), 255);
    Due.letter(x, "6(8a)");
    Due.law(x, "x(i=0);".repeat(15) + "x(i=1)");
    x.nerve(99);
    x.days(2);
    x.seed(65535);
    for (int k = 0; k < 13; k++) {
      x.feed(0, 0, 0, 0, 0);
    }
    int[] want = {2, 255, 99, 4, 92, 16, 260, 65535, 48};
    for (int what = 0; what < want.length; what++) {
      is("count(" + what + ")", x.count(what), want[what]);
    }
    int[] whats = {-1, 9, 16, 256, MIN, MAX};
    for (int what : whats) {
      is("count(" + what + ")", x.count(what), -1);
    }
  }
}

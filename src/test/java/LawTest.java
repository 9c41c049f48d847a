/** Promise 7: law; what its texts mean is seen by tried. */
public final class LawTest {
  private static final Due due = new Due("LawTest");

  public static void main(String[] args) {
    faults();
    depths();
    rules();
    theOneBeforeStays();
    reckoning();
    conditions();
    refusedDivisions();
    facts();
    firstRuleCounts();
    bounds();
    manyLaws();
    manyRefusals();
    due.end();
  }

  private static void faults() {
    String[] texts = {"f5(b=0)", "x(b=0)", "e9(1<2&2>1|k=4)", "z5(b=0)", "f", "e(b=0)", "x5(b=0)", "e5", "f5(b",
        "e5(b=", "e5(b=0", "f5(a=0)", "e123456(b=0)", "e12345(b=0)", "f5(b=0);", "f5(b=0);;", "f5(b=0)f5(b=0)",
        "f5(b=0) ", " f5(b=0)", "f5 (b=0)", "f+5(b=0)", "f-5(b=0)", "f5+(b=0)", "f5++5(b=0)", "f5*(b=0)",
        "f[5(b=0)", "f[5](b=0)", "f[](b=0)", "f5](b=0)", "f5(b)", "f5(b=0=0)", "f5(b<0>1)", "f5((b)=0)",
        "f5([b]=0)", "f5(!b)", "f5(!b=0)", "f5(!(b=0))", "f5(!)", "f5()", "f5(b=0&)", "f5(b=0|)", "f5(b=0&&k=0)",
        "f5((b=0)&k=0)", "f5((b=0)=0)", "f5(b=123456)", "f5(b=12345)", "f5(b=0))", "f5b(b=0)", "fb(b=0)", "x",
        "x(", "f5(b==0)", "f5(b<=0)", "F5(b=0)", "f5(b=0);g", "f5(B=0)", "f5(b=0)]", "x([b=0])", "x(!!b=0)", "f5(=0)",
        "f5b", "x(b=0;", "f5%3*2/1-b+k(u<1)", "x(bk=0)", "x([b]k=0)", "x(5b=0)", "x(b[0])", "x(b5=0)", "fbk(b=0)",
        "f5[b](b=0)", "x(b=00k)"};
    int[] want = {1, 1, 1, -1000, -1001, -1001, -1001, -1002, -1004,
        -1005, -1006, -1003, -2006, 1, -1008, -1008, -1007,
        -1007, -1000, -1002, -1001, -1001, -1003, -1003, -1003,
        -1003, 1, -1002, -1002, -1004, -1006, -1006, -1005,
        1, -1005, 1, 1, -1004, -1003, -1007, -1007, -1007,
        1, -1008, -2010, 1, -1007, -1002, 1, -1001,
        -1002, -1005, -1005, -1000, -1008, -1003, -1007, -1004, 1, -1003,
        -1002, -1005, 1, -1003, -1005, -1003, -1003, -1003, -1002,
        -1002, -1006};
    for (int k = 0; k < texts.length; k++) {
      AfraidInk x = new AfraidInk();
      due.is("law " + texts[k], Due.law(x, texts[k]), want[k]);
      due.is("RULES by " + texts[k], x.count(5), want[k] > 0 ? 1 : 0);
      due.is("the tape is empty behind " + texts[k], x.count(6), 0);
    }
  }

  private static void depths() {
    String[] texts = {"x((((((b=1))))))", "x(((((((b=1)))))))", "f[[[[[[5]]]]]](b=0)", "f[[[[[[[5]]]]]]](b=0)",
        "x(!!!!!b=0)", "x(!!!!!!b=0)", "x([[[[[b]]]]]=0)", "x([[[[[[b]]]]]]=0)", "x(!([!b]=0))", "x(!(!([b]=0)))",
        "x(!(!([[b]]=0)))", "f[[[[[[5]]]]]]((((((b=1))))))", "x(b=0&!!!!!b=0&!!!!!b=0|!!!!!(b=0))",
        "x(!!!!!b=0&!!!!!!b=0)", "x(b=[[[[[1]]]]]&[[[[[1]]]]]=[[[[[1+[b]]]]]])", "x(((((((", "x(b((((((((("};
    int[] want = {1, -5007, 1, -5007, 1, -5007, 1, -5007, -1005, 1, -5007, 1, -5029, -5016, -5035, -5007, -1003};
    for (int k = 0; k < texts.length; k++) {
      due.is("law " + texts[k], Due.law(new AfraidInk(), texts[k]), want[k]);
    }
  }

  private static void rules() {
    String fifteen = "f5(b=0);".repeat(15);
    String sixteen = fifteen + "e5(b=0)";
    due.is("16 RULES", Due.law(new AfraidInk(), sixteen), 16);
    due.is("a 17th by f", Due.law(new AfraidInk(), sixteen + ";f"), -4128);
    due.is("a 17th by e", Due.law(new AfraidInk(), sixteen + ";e"), -4128);
    due.is("a 17th by x", Due.law(new AfraidInk(), sixteen + ";x"), -4128);
    due.is("a 17th that can't stand", Due.law(new AfraidInk(), sixteen + ";g"), -1128);
    due.is("no 17th", Due.law(new AfraidInk(), sixteen + ";"), -1128);
    String longest = "f1(" + "b=0&".repeat(58) + "b=00)";
    due.is("240 bytes", longest.length(), 240);
    due.is("a LAW of 240 bytes", Due.law(new AfraidInk(), longest), 1);
    String sum = "f1" + "+1".repeat(116) + "(b=0)";
    due.is("a long sum", Due.law(new AfraidInk(), sum), 1);
    AfraidInk x = new AfraidInk();
    Due.law(x, sixteen);
    due.is("count(5)", x.count(5), 16);
  }

  private static void theOneBeforeStays() {
    AfraidInk x = writer();
    Due.law(x, "x(b=0)");
    due.is("not opened", x.tried(1, 0), 0);
    due.is("a FAULT", Due.law(x, "f5(b=0);x(b=1"), -1013);
    due.is("the one before stays", x.tried(1, 0), 0);
    due.is("its RULES", x.count(5), 1);
    due.is("law(0)", x.law(0), -1);
    due.is("in place of it", Due.law(x, "x(b=1);x(b=2)"), 2);
    due.is("opened", x.tried(1, 0), 1);
  }

  /** One BOTTLE, one WORD: it is WRITTEN unless an x shuts the BOTTLE. */
  private static AfraidInk writer() {
    AfraidInk x = new AfraidInk();
    x.bottle(0, 0);
    Due.letter(x, "a");
    return x;
  }

  private static boolean holds(String condition) {
    AfraidInk x = writer();
    due.is("law of " + condition, Due.law(x, "x(" + condition + ")"), 1);
    return x.tried(1, 0) == 0;
  }

  private static void reckoning() {
    String[] sums = {"7", "99999", "1+2*3", "[1+2]*3", "9-3-2", "9-[3-2]", "20/3", "0-20/3", "[0-20]/3", "[0-20]%3",
        "20%3*2", "2*20%3", "100/10/5", "99999*99999", "65536*65536", "65536*32768", "[0-65536*32768]/[0-1]",
        "[65536*32768]%[0-1]", "00012", "1-2+3", "65536*32767+65535+1", "7%[0-4]", "[0-7]%4", "5-5*0"};
    int[] want = {7, 99999, 7, 9, 4, 8, 6, -6, -6, -2, 4, 1, 2, 99999 * 99999, 0, Integer.MIN_VALUE,
        Integer.MIN_VALUE, 0, 12, 2, Integer.MIN_VALUE, 3, -3, 5};
    for (int k = 0; k < sums.length; k++) {
      due.is(sums[k] + " is " + want[k], holds(sums[k] + "=" + written(want[k])), true);
      due.is(sums[k] + " is not below", holds(sums[k] + "<" + written(want[k])), false);
      due.is(sums[k] + " is not above", holds(sums[k] + ">" + written(want[k])), false);
    }
  }

  /** A number of any size as an E with numbers of five digits at most. */
  private static String written(int value) {
    int high = value >> 16;
    int low = value & 65535;
    String text = high < 0 ? "[0-" + -high + "]" : "" + high;
    return text + "*65536+" + low;
  }

  private static void conditions() {
    String[] hold = {"1=1", "1<2", "2>1", "!1=2", "!!1=1", "1=2|1=1", "1=1&2=2", "1=1|1=2&1=2", "[0-1]<0",
        "(1=2|1=1)&1=1", "!(1=1&1=2)", "!1=2&1=1", "1=2&1=2|1=1", "!(!(1=1))", "1=2|1=2|1=2|1=1", "!1=1|1=1",
        "1=1&1=1&!1=2&(1=2|2=2)", "1=2&1=1&1=1|1=1", "1=2&1=1&1=1&1=1|1=2&1=1|1=1", "!(1=2&1=1&1=1)",
        "1=1|1=2|1=2", "(1=1|1=2|1=2)&(1=1|1=2|1=2)"};
    String[] not = {"1=2", "2<2", "2>2", "!1=1", "1=2|2=1", "1=1&2=1", "(1=1|1=2)&1=2", "!(1=1|1=2)", "!1=1&1=1",
        "1=1&1=1&1=2", "1=2&1=1|1=2&1=1", "!1=2&1=2", "!(1=2)&!(1=1)", "1=2&1=1&1=1",
        "(1=2&1=1&1=1)|1=2", "!(1=1|1=2|1=2)", "(1=1|1=2|1=2)&1=2"};
    for (String condition : hold) {
      due.is(condition + " holds", holds(condition), true);
    }
    for (String condition : not) {
      due.is(condition + " does not hold", holds(condition), false);
    }
  }

  private static void refusedDivisions() {
    String[] hold = {"1=1|1/0=1", "!(1=2&1/0=1)", "1=2&1%0=0|1=1", "1=1|1%0=1|1/0=1", "(1=1|1/0=0)&1=1",
        "1=2&1/0=0&1=1|1=1", "!(1=2&1/0=0&1/0=0)"};
    String[] not = {"1/0=0", "1%0=0", "!1/0=0", "!1%0=1", "1/0=1|1=1", "1=1&1/0=0", "1=1&!1/0=0", "(1/0=0)|1=1",
        "!(1=2|1/0=1)", "0/0=0", "1=1/b", "1/b=1/b", "1=2|1%b=0|1=1", "0*[1/0]=0"};
    for (String condition : hold) {
      due.is(condition + " holds", holds(condition), true);
    }
    for (String condition : not) {
      due.is(condition + " does not hold", holds(condition), false);
    }
    AfraidInk x = writer();
    x.nerve(5);
    Due.law(x, "f1/0(b=0);f50(b=0)");
    due.is("a REFUSED E of f is 0, of the first RULE", x.tried(1, 0), 1);
    Due.law(x, "f1(1/0=0);f50(b=0)");
    due.is("a REFUSED C goes on to the next RULE", x.tried(1, 0), 0);
    Due.law(x, "e1%0(b=0);e5(b=0)");
    due.is("a REFUSED E of e is 0: not liked", x.tried(1, 100), 999);
    due.is("no BOTTLE: a PICTURE", x.tried(1, 1), 1);
    Due.law(x, "f99-1/0(b=0)");
    due.is("REFUSED, the whole E is 0", x.tried(1, 0), 1);
  }

  private static void facts() {
    AfraidInk x = new AfraidInk();
    x.bottle(5, 1);
    Due.grief(x, 5, "c=4;!3");
    x.nerve(30);
    Due.letter(x, "c");
    x.days(1);
    x.days(1);
    Due.letter(x, "aac");
    String[] names = {"b", "k", "w", "v", "n", "s", "q", "i", "d"};
    int[] values = {5, 1, 2, 4, 2, 3, 5, 2, 2};
    for (int k = 0; k < names.length; k++) {
      Due.law(x, "x(i=2&" + names[k] + "=" + values[k] + ")");
      due.is(names[k] + " is " + values[k], x.tried(1, 0), 2);
      Due.law(x, "x(i=2&!" + names[k] + "=" + values[k] + ")");
      due.is(names[k] + " is nothing else", x.tried(1, 0), 3);
    }
    x.seed(1);
    int[] draws = {2, 7};
    Due.letter(x, "ab");
    for (int place = 0; place < 2; place++) {
      Due.law(x, "x(i=" + place + "&u=" + draws[place] + ")");
      due.is("u at " + place, x.tried(1, 0), 1);
    }
    AfraidInk late = writer();
    for (int k = 0; k < 2; k++) {
      late.days(60);
    }
    late.days(3);
    Due.law(late, "x(d=23)");
    due.is("d is THE DAY modulo 100", late.tried(1, 0), 0);
    due.is("d on the next DAY", late.tried(2, 0), 1);
  }

  private static void firstRuleCounts() {
    AfraidInk x = writer();
    x.bottle(1, 0);
    Due.law(x, "f5(b=1);f9(b=0);f99(b=0);f0(b=1)");
    due.is("the first f: 1 is tried", x.tried(1, 101), 998);
    Due.law(x, "e5(b=1);e4(b=0);e9(b=0)");
    due.is("the first e: 1 is tried", x.tried(1, 101), 998);
    Due.law(x, "e0(b=0)");
    due.is("e of none is 1", x.tried(1, 101), 998);
    Due.law(x, "x(b=3);x(b=0);x(b=4)");
    due.is("any x will do", x.tried(1, 101), 998);
    Due.law(x, "x(b=0);x(b=1)");
    due.is("all shut", x.tried(1, 1), 1);
    due.is("all shut: INK", x.tried(1, 100), 999);
    Due.law(x, "e2(b=1);f90(b=1)");
    due.is("liked more, feared more: it is tried", x.tried(1, 101), 998);
    due.is("and beads up", x.tried(1, 1), 1);
  }

  /** What was read for a LAW before must not come back, nor use up any room. */
  private static void manyLaws() {
    AfraidInk x = writer();
    for (int k = 0; k < 60; k++) {
      due.is("three RULES", Due.law(x, "f0(b=1);f99(b=0);x(b=0)"), 3);
      due.is("shut", x.tried(1, 100), 999);
      due.is("a FAULT", Due.law(x, "f0(b=0&b=0);f99(b=0);x(b=0);q"), -1028);
      due.is("one RULE", Due.law(x, "e1(b=0)"), 1);
      due.is("open, and nothing is added", x.tried(1, 0), 1);
    }
  }

  private static void manyRefusals() {
    AfraidInk x = writer();
    Due.letter(x, "9a9b");
    Due.law(x, "x(1+2*[3-1/0]=1);e5+[1%0](b=1);f1-2*[5/0](w=0);f99(w=1&i>8)");
    due.is("REFUSED again and again", x.tried(20, 0), 180);
    due.is("PICTURES", x.tried(20, 1), 180);
  }

  private static void bounds() {
    AfraidInk x = writer();
    x.bottle(1, 0);
    Due.law(x, "e99999(b=1);e9999(b=0)");
    due.is("e is 9999 at most", x.tried(1, 100), 998);
    Due.law(x, "e0-5(b=0);e0(b=1)");
    due.is("e is 0 at least: none is liked", x.tried(1, 1), 1);
    x.nerve(98);
    Due.law(x, "f98(b<2)");
    due.is("f 98", x.tried(1, 0), 1);
    Due.law(x, "f99999(b<2)");
    due.is("f is 99 at most, above NERVE", x.tried(1, 0), 0);
    x.nerve(99);
    due.is("f is 99 at most, no more than NERVE", x.tried(1, 0), 1);
    x.nerve(0);
    Due.law(x, "f0-9(b<2)");
    due.is("f is 0 at least", x.tried(1, 0), 1);
    Due.grief(x, 0, "a=60");
    Due.grief(x, 1, "a=70");
    Due.law(x, "f50(b=0);f40(b=1)");
    x.nerve(99);
    due.is("FEAR is 99 at most: the lowest of like ones", x.tried(1, 100), 998);
    due.is("and it goes down", x.tried(1, 0), 1);
  }
}

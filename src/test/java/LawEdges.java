/** "Terms", THE LAW: RULES, numbers, what is divided by 0, FAULTS at their places. */
final class LawEdges extends Edge {
  private static final String DIGITS = "0123456789";
  private static final String FACTS = "bkwvnsqidu";
  private static final String FACTOR = "[" + DIGITS + FACTS;
  private static final String TEST = "!(" + FACTOR;
  private static final String SIGNS = "+-*/%";

  static void run() {
    in("Terms");
    bytes();
    rules();
    boundsOfF();
    boundsOfE();
    shutByX();
    firstRuleThatHolds();
    parts();
    factors();
    numbers();
    facts();
    thirtyTwoBits();
    dividedByZero();
    asMuchAsMatters();
    faultOfWhatCannotStand();
    faultOfTheEnd();
    faultOfSixthDigit();
    faultOfRule17();
    faultOfSeventhOpen();
    firstFromTheLeft();
  }

  private static int read(String text) {
    return Due.law(new AfraidInk(), text);
  }

  /** One BOTTLE without DREAD, the LETTER a: it is WRITTEN but for THE LAW. */
  private static AfraidInk writer(String law) {
    AfraidInk x = told(0);
    Due.letter(x, "a");
    is("RULES of " + law, Due.law(x, law), law.split(";").length);
    return x;
  }

  private static boolean holds(String condition) {
    return writer("x(" + condition + ")").tried(1, 1) == 1;
  }

  private static void hold(String... conditions) {
    for (String condition : conditions) {
      is(condition + " holds", holds(condition), true);
    }
  }

  private static void holdNot(String... conditions) {
    for (String condition : conditions) {
      is(condition + " does not hold", holds(condition), false);
    }
  }

  private static void bytes() {
    says("THE LAW: a TEXT of at most 240 bytes, no blanks (none at first)");
    AfraidInk x = told(0);
    is("none at first", x.count(5), 0);
    String longest = "x(" + "b=1|".repeat(58) + "b=000)";
    is("so many bytes are told", longest.length(), 240);
    is("240 bytes", Due.law(x, longest), 1);
    Due.letter(x, "a");
    is("its last TEST is asked", x.tried(1, 1), 1);
    tape(x, 13, longest + ";");
    is("241 bytes", x.law(241), -1);
    is("the tape stays", x.count(6), 260);
    is("240 of 260 bytes", x.law(240), 1);
    is("the end at place 240", read(longest.substring(0, 239) + "0"), -1240);
    is("a FAULT at place 239", read(longest.substring(0, 239) + "q"), -1239);
    String[] texts = {" x(b=0)", "x (b=0)", "x( b=0)", "x(b =0)", "x(b= 0)", "x(b=0 )", "x(b=0) ", "f 5(b=0)",
        "f5 (b=0)", "x(b=0); f5(b=0)", "x(b=0 &b=0)", "x(b=1 0)"};
    int[] places = {0, 1, 2, 3, 4, 5, 6, 1, 2, 7, 5, 5};
    for (int k = 0; k < texts.length; k++) {
      is("no blank: " + texts[k], read(texts[k]), -1000 - places[k]);
    }
  }

  private static void rules() {
    says("RULES (16 at most) with a ; (59) between two");
    is("one RULE", read("x(b=0)"), 1);
    is("two RULES", read("x(b=0);f5(b=0)"), 2);
    is("sign 58 between", read("x(b=0):x(b=0)"), -1006);
    is("sign 60 between", read("x(b=0)<x(b=0)"), -1006);
    is("nothing between", read("x(b=0)x(b=0)"), -1006);
    is("two ; between", read("x(b=0);;x(b=0)"), -1007);
    is("a ; ahead", read(";x(b=0)"), -1000);
    is("a ; behind", read("x(b=0);"), -1007);
    is("15 RULES", read("x(b=1);".repeat(14) + "x(b=0)"), 15);
    AfraidInk x = writer("x(b=1);".repeat(15) + "x(b=0)");
    is("the 16th is asked", x.tried(1, 1), 1);
    is("RULES are 16", x.count(5), 16);
    is("17 RULES", Due.law(x, "x(b=1);".repeat(16) + "x(b=1)"), -4112);
    is("the 16 of before stay", x.count(5), 16);
    is("and are asked", x.tried(1, 1), 1);
  }

  /** Whether a WORD of SHRINKING 30 goes down by this E of f and this NERVE. */
  private static boolean goesDown(String sum, int nerve) {
    AfraidInk x = writer("f" + sum + "(b=0)");
    Due.grief(x, 0, "a=30");
    x.nerve(nerve);
    return x.tried(1, 0) == 1;
  }

  private static void boundsOfF() {
    says("f by how much FEAR is more (0 to 99)");
    is("0, NERVE 30", goesDown("0", 30), true);
    is("0, NERVE 29", goesDown("0", 29), false);
    is("1, NERVE 30", goesDown("1", 30), false);
    is("1, NERVE 31", goesDown("1", 31), true);
    is("68, NERVE 98", goesDown("68", 98), true);
    is("69, NERVE 98", goesDown("69", 98), false);
    is("99, NERVE 99", goesDown("99", 99), true);
    is("below 0 it is 0: NERVE 29", goesDown("0-1", 29), false);
    is("below 0 it is 0: NERVE 30", goesDown("0-1", 30), true);
    is("far below 0 it is 0: NERVE 29", goesDown("0-99999*9999", 29), false);
    is("above 99 it is 99: NERVE 98", goesDown("100", 98), false);
    is("above 99 it is 99: NERVE 99", goesDown("99999", 99), true);
    is("the greatest of 32 bits: NERVE 98", goesDown("65536*32767+65535", 98), false);
    is("the least of 32 bits: NERVE 29", goesDown("65536*32768", 29), false);
  }

  /** Which of two BOTTLES is tried by these E of e; -1: none. */
  private static int liked(String first, String second) {
    AfraidInk x = writer("e" + first + "(b=0);e" + second + "(b=1)");
    x.bottle(1, 0);
    if (x.tried(1, 100) == 998) {
      return 0;
    }
    return x.tried(1, 101) == 998 ? 1 : -1;
  }

  private static void boundsOfE() {
    says("e how a BOTTLE is liked for a WORD (0 to 9999)");
    is("0 and 0", liked("0", "0"), -1);
    is("0 and 1", liked("0", "1"), 1);
    is("1 and 0", liked("1", "0"), 0);
    is("1 and 2", liked("1", "2"), 1);
    is("9998 and 9999", liked("9998", "9999"), 1);
    is("9999 and 10000 are alike", liked("9999", "10000"), 0);
    is("9999 and 99999 are alike", liked("9999", "99999"), 0);
    is("9998 and 10000", liked("9998", "10000"), 1);
    is("below 0 it is 0", liked("0-1", "0-2"), -1);
    is("the greatest of 32 bits", liked("9998", "65536*32767+65535"), 1);
    is("the least of 32 bits", liked("65536*32768", "1"), 1);
  }

  private static void shutByX() {
    says("x a BOTTLE is not opened for a WORD (any will do; without an x in THE LAW all are)");
    String[] laws = {"x(b=0)", "x(b=1);x(b=0)", "x(b=0);x(b=1)", "x(b=1);x(b=1)", "f0(b=0)", "e1(b=0)"};
    int[] pictures = {1, 1, 1, 0, 0, 0};
    for (int k = 0; k < laws.length; k++) {
      is("PICTURES by " + laws[k], writer(laws[k]).tried(1, 1), pictures[k]);
    }
    AfraidInk x = told(0);
    Due.letter(x, "a");
    is("PICTURES without a LAW", x.tried(1, 1), 0);
    AfraidInk y = writer("x(w=0)");
    Due.letter(y, "ab");
    is("for a WORD", y.tried(1, 1), 1);
  }

  private static void firstRuleThatHolds() {
    says("of the first RULE of f, e whose C holds the E (beyond its bounds the bound; of f none: 0; of e none: 1).");
    is("the first f", writer("f99(b=0);f0(b=0)").tried(1, 1), 1);
    is("the first f whose C holds", writer("f99(b=1);f0(b=0)").tried(1, 1), 0);
    is("not the last", writer("f0(b=0);f99(b=0)").tried(1, 1), 0);
    is("of f none whose C holds", writer("f99(b=1)").tried(1, 1), 0);
    AfraidInk x = writer("f1(b=1)");
    x.nerve(0);
    is("of f none: 0", x.tried(1, 1), 0);
    is("of e none: 1, as 1", likedByOne("e1(b=1)"), 0);
    is("of e none: 1, less than 2", likedByOne("e2(b=1)"), 1);
    is("of e none: 1, more than 0", likedByOne("e0(b=1)"), 0);
    is("the first e whose C holds", likedByOne("e0(b=2);e3(b=1);e9(b=0&b=1)"), 1);
    is("the first e", likedByOne("e0(b=1);e9(b=1)"), 0);
  }

  private static int likedByOne(String law) {
    AfraidInk x = writer(law);
    x.bottle(1, 0);
    return x.tried(1, 101) == 998 ? 1 : 0;
  }

  private static void parts() {
    says("C: PARTS with a | between two, one of which must hold; a PART: TESTS with an & between two, all of which"
        + " must; a TEST: !TEST, (C), or E, one of < > =, and E.");
    hold("1=1", "1=2|1=1", "1=1|1=2", "1=1&2=2", "1=2&1=2|1=1", "1=1|1=2&1=2", "!1=2", "!!1=1", "!(1=1&1=2)",
        "(1=1)", "0<1", "1>0", "[0-1]<0", "1=2|1=2|1=1", "1=1&1=1&1=1");
    holdNot("1=2", "1=2|1=2", "1=1&1=2", "1=2&1=1", "(1=1|1=2)&1=2", "!1=1", "!(1=2|1=1)", "!1=1|1=2", "!1=2&1=2",
        "0<0", "0>0", "1<0", "0>1", "1=2|1=2|1=2", "1=1&1=1&1=2");
  }

  private static void factors() {
    says("E: TERMS with + or - between two; a TERM: FACTORS with one of * / % between two; from the left on");
    hold("9-3-2=4", "9-[3-2]=8", "2+3*4=14", "[2+3]*4=20", "20/2/5=2", "20/2*5=50", "20%7*2=12", "7*20%3=2",
        "9-2+3=10", "1+20/7-1=2", "[0-20]/7=0-2", "[0-20]%7=0-6", "20%[0-7]=6");
  }

  private static void numbers() {
    says("a FACTOR: [E], a number of one to five digits, or a letter");
    hold("0=00000", "00009=9", "99999=100*999+99", "99999>99998", "[7]=7", "[[7]]=7");
    is("five digits", read("f99999(b=99999)"), 1);
    is("six digits", read("f100000(b=0)"), -2006);
    is("six digits of a C", read("x(b=100000)"), -2009);
    is("no digit", read("f(b=0)"), -1001);
    is("a minus ahead", read("f-1(b=0)"), -1001);
    is("no E in [ ]", read("f[](b=0)"), -1002);
  }

  /** "x(fact=value)" shuts the BOTTLE just where the fact has that value. */
  private static void factIs(AfraidInk x, String fact, int value, int wordsOfIt) {
    int all = x.count(8);
    Due.law(x, "x(" + fact + "=" + value + ")");
    is(fact + " is " + value + " for so many WORDS", all - x.tried(1, 0), wordsOfIt);
  }

  private static void facts() {
    says("b the BOTTLE, k its KIND, w the WORD, v DREAD, n TRIES, s SALT, q SHRINKING, i the as manieth WORD of the"
        + " LETTER (0 on), d THE DAY modulo 100, u the DRAW of the WORD.");
    leastFacts();
    greatestFacts();
    places();
    daysModulo100();
    drawsOfWords();
  }

  private static void leastFacts() {
    AfraidInk x = told(0);
    Due.letter(x, "a");
    for (String fact : "b k w v n s q i d".split(" ")) {
      factIs(x, fact, 0, 1);
      factIs(x, fact, 1, 0);
    }
  }

  private static void greatestFacts() {
    AfraidInk x = new AfraidInk();
    x.nerve(99);
    x.bottle(7, 4);
    Due.letter(x, "8p");
    x.days(1);
    Due.grief(x, 7, "p=99");
    Due.letter(x, "p");
    String[] facts = {"b", "k", "w", "v", "n", "s", "q"};
    int[] greatest = {7, 4, 15, 99, 8, 0, 99};
    for (int k = 0; k < facts.length; k++) {
      factIs(x, facts[k], greatest[k], 1);
    }
    Due.grief(x, 7, "!99");
    factIs(x, "s", 99, 1);
    factIs(x, "q", 0, 1);
    factIs(x, "v", 99, 1);
    Due.grief(x, 7, "#1;!98");
    factIs(x, "q", 99, 1);
  }

  private static void places() {
    AfraidInk x = told(3);
    Due.letter(x, "6(8a)");
    factIs(x, "i", 0, 1);
    factIs(x, "i", 47, 1);
    factIs(x, "i", 48, 0);
    Due.law(x, "x(i>46)");
    is("i above 46", 48 - x.tried(1, 0), 1);
    Due.law(x, "x(i<1)");
    is("i below 1", 48 - x.tried(1, 0), 1);
    is("i on the second DAY", 96 - x.tried(2, 0), 2);
  }

  private static void daysModulo100() {
    AfraidInk x = told(3);
    x.days(60);
    x.days(39);
    Due.letter(x, "a");
    factIs(x, "d", 99, 1);
    x.days(1);
    is("THE DAY", x.count(0), 100);
    factIs(x, "d", 0, 1);
    factIs(x, "d", 100, 0);
  }

  private static void drawsOfWords() {
    AfraidInk x = told(3);
    Due.letter(x, "6(8a)");
    int[] often = new int[10];
    for (int seed = 1, k = 0; k < 48; k++) {
      seed = (25173 * seed + 13849) % 65536;
      often[seed % 10]++;
    }
    for (int u = 0; u < 10; u++) {
      factIs(x, "u", u, often[u]);
    }
    factIs(x, "u", 10, 0);
    Due.law(x, "x(u<0)");
    is("no u below 0", x.tried(1, 0), 48);
  }

  private static void thirtyTwoBits() {
    says("All is reckoned with 32 bits, as the machine does");
    String greatest = "65536*32767+65535";
    String least = "65536*32768";
    hold(greatest + ">" + "99999*9999", greatest + "+1<0", greatest + "+1=" + least, least + "<0", least + "-1>0",
        least + "-1=" + greatest, "0-" + "[" + least + "]=" + least, "65536*65536=0", "65536*65535=0-65536",
        "[" + least + "]/[0-1]=" + least, "[" + least + "]%[0-1]=0", "[" + least + "]*[0-1]=" + least,
        "99999*99999=65536*21512+54977", "99999*99999*99999<0");
  }

  private static void dividedByZero() {
    says("what is divided by 0 is REFUSED: then the whole C of the RULE does not hold, the E of it is 0.");
    holdNot("1/0=0", "1%0=0", "0/0=0", "0%0=0", "1/0<1", "1/0>0", "1=1&1/0=0", "1/0=0|1=1", "!1/0=0", "!(1%0=0)",
        "!(!(1/0=0))", "(1/0=0)|1=1", "1=1&(1=2|1/0=0)", "0*[1/0]=0", "1/[b-b]=0", "1/[2%2]=0", "1=1/0", "b/b=1");
    hold("0/1=0", "0%1=0", "1/[0-1]<0");
    is("the C of f: the next RULE counts", writer("f0(1/0=0);f99(b=0)").tried(1, 1), 1);
    is("the E of f is 0, and the RULE is the first", writer("f9/0(b=0);f99(b=0)").tried(1, 1), 0);
    is("all of the E is 0", writer("f99+9%0(b=0)").tried(1, 1), 0);
    is("all of the E is 0, from the left", writer("f99-[9/0](b=0)").tried(1, 1), 0);
    is("the E of e is 0: not liked", writer("e9/0(b=0);e9(b=0)").tried(1, 1), 1);
    is("all of the E of e is 0", writer("e9+9%0(b=0)").tried(1, 1), 1);
    is("the C of e: the next RULE counts", writer("e0(1%0=0);e9(b=0)").tried(1, 1), 0);
    is("the C of x does not shut", writer("x(1/0=0);f0(b=0)").tried(1, 1), 0);
    is("the E of a RULE whose C does not hold is not asked", writer("f1/0(b=1);f99(b=0)").tried(1, 1), 1);
    AfraidInk x = writer("x(1+2*[3-1/0]=1);e5+[1%0](b=1);f1-2*[5/0](w=0);f99(w=1)");
    Due.letter(x, "9a9b");
    is("REFUSED again and again", x.tried(50, 0), 450);
    is("and the others bead up", x.tried(50, 1), 450);
  }

  private static void asMuchAsMatters() {
    says("Of a C as much is asked, from the left, as matters.");
    hold("1=1|1/0=0", "1=1|1%0=0|1/0=0", "1=2&1/0=0|1=1", "(1=1|1/0=0)&1=1", "!(1=2&1/0=0)", "1=2|1=1|1/0=0",
        "1=2&1/0=0&1/0=0|1=1", "1=1&1=1|1/0=0", "!1=2|1/0=0");
    holdNot("1=2|1/0=0", "1=1&1/0=0", "1/0=0&1=2|1=1", "1=2|1/0=0|1=1", "1=1&1/0=0|1=1", "!(1=2|1/0=0)",
        "1=2&1/0=0");
  }

  private static void faultOfWhatCannotStand() {
    says("FAULTS, the first from the left: 1 what can't stand there (the end, too);");
    String[] ruleBegins = {"", "x(b=0);"};
    for (String begin : ruleBegins) {
      canStand(LawEdges::read, begin, "fex");
    }
    String[] factorBegins = {"f", "e", "f1+", "f1-", "f1*", "f1/", "f1%", "f[", "f[b*", "x(b=", "x(b<", "x(b>", "x(b=b+",
        "x(b=[", "x([", "x(!b="};
    for (String begin : factorBegins) {
      canStand(LawEdges::read, begin, FACTOR);
    }
    canStand(LawEdges::read, "x", "(");
    String[] testBegins = {"x(", "f1(", "x(!", "x((", "x(b=0&", "x(b=0|", "x((b=0)&", "x(!(", "x(!!"};
    for (String begin : testBegins) {
      canStand(LawEdges::read, begin, TEST);
    }
    canStand(LawEdges::read, "fb", SIGNS + "(");
    canStand(LawEdges::read, "f[b]", SIGNS + "(");
    canStand(LawEdges::read, "f5", SIGNS + "(" + DIGITS);
    canStand(LawEdges::read, "f12345", SIGNS + "(", DIGITS, 2);
    canStand(LawEdges::read, "f[b", SIGNS + "]");
    canStand(LawEdges::read, "f[[b]", SIGNS + "]");
    String[] left = {"x(b", "x(!b", "x([b]", "x((b", "x(b=0&b", "x(b=0|b+b"};
    for (String begin : left) {
      canStand(LawEdges::read, begin, SIGNS + "<>=");
    }
    canStand(LawEdges::read, "x(5", SIGNS + "<>=" + DIGITS);
    String[] right = {"x(b=b", "x(!b=b", "x((b=b", "x(b=[b]", "x(b<b", "x(b=0&b=b", "x(b=0|b=b"};
    for (String begin : right) {
      canStand(LawEdges::read, begin, SIGNS + "&|)");
    }
    canStand(LawEdges::read, "x(b=5", SIGNS + "&|)" + DIGITS);
    String[] behindRound = {"x((b=0)", "x(!(b=0)", "x(b=0&(b=0)"};
    for (String begin : behindRound) {
      canStand(LawEdges::read, begin, "&|)");
    }
    canStand(LawEdges::read, "x(b=0)", ";");
    canStand(LawEdges::read, "f1(b=0)", ";");
  }

  private static void faultOfTheEnd() {
    says("1 what can't stand there (the end, too); 2 a sixth digit, at it;");
    endTooEarly(LawEdges::read, "x(b=0)");
    endTooEarly(LawEdges::read, "e[12+k]*w%7-d/2(!v=3&(n<2|!(s>1))|q=i&u=5)");
    endTooEarly(LawEdges::read, "f[[1]-[2]](([b]=[k]))");
    is("the end behind a ;", read("x(b=0);"), -1007);
    is("the end behind 16 RULES and a ;", read("x(b=0);".repeat(16)), -1112);
    AfraidInk x = new AfraidInk();
    tape(x, 1, "x(b=0);x(b=1)");
    is("the end at n, not at that of the tape", x.law(5), -1005);
    tape(x, 1, "x(b=0);x(b=1)");
    is("only the first n", x.law(6), 1);
    tape(x, 1, "f123456(b=0)");
    is("a sixth digit behind the end", x.law(6), -1006);
  }

  private static void faultOfSixthDigit() {
    says("2 a sixth digit, at it");
    is("in the E of f", read("f123456(b=0)"), -2006);
    is("in the E of e", read("e1+999999(b=0)"), -2008);
    is("zeros", read("f000000(b=0)"), -2006);
    is("in [ ]", read("f[123456](b=0)"), -2007);
    is("on the left of a TEST", read("x(123456=b)"), -2007);
    is("on the right of a TEST", read("x(b=123456)"), -2009);
    is("the sixth of more", read("x(b=1234567890)"), -2009);
    is("in a second RULE", read("x(b=0);f123456(b=0)"), -2013);
    is("at place 239", read("x(" + "b=1|".repeat(57) + "b+b=123456"), -2239);
  }

  private static void faultOfRule17() {
    says("4 a 17th RULE, at its letter (if that can stand there)");
    String sixteen = "x(b=0);".repeat(16);
    canStand(LawEdges::read, sixteen, "", "fex", 4);
    is("its letter alone", read(sixteen + "f"), -4112);
    is("a whole 17th RULE", read(sixteen + "f1(b=0)"), -4112);
    is("a 17th and an 18th", read(sixteen + "x(b=0);x(b=0)"), -4112);
    is("what can't stand there", read(sixteen + "b"), -1112);
    is("the end", read(sixteen), -1112);
    is("a ; again", read(sixteen + ";"), -1112);
  }

  private static void faultOfSeventhOpen() {
    says("5 a seventh of ( [ ! that are open in one another, at it (the ( of the RULE counts; a ! is open till its TEST"
        + " ends; the E of a RULE stands ahead of it).");
    is("six (", read("x((((((b=0))))))"), 1);
    is("seven (", read("x(((((((b=0)))))))"), -5007);
    is("six by [", read("x([[[[[b]]]]]=0)"), 1);
    is("seven by [", read("x([[[[[[b]]]]]]=0)"), -5007);
    is("six by !", read("x(!!!!!b=0)"), 1);
    is("seven by !", read("x(!!!!!!b=0)"), -5007);
    is("seven on the right", read("x(b=[[[[[[b]]]]]])"), -5009);
    is("six of all three", read("x(!(!([b]=0)))"), 1);
    is("seven of all three, a [", read("x(!(!([[b]]=0)))"), -5007);
    is("seven of all three, a (", read("x(!(!(!(b=0))))"), -5007);
    is("seven of all three, a !", read("x(!(!((!b=0))))"), -5007);
    is("a ! is open till its TEST ends: in the right E", read("x(!b=[[[[b]]]])"), 1);
    is("one more in the right E", read("x(!b=[[[[[b]]]]])"), -5009);
    is("it is no more open behind its TEST", read("x(!b=0&[[[[[b]]]]]=0|!!!!!b=0)"), 1);
    is("nor behind a round", read("x(!(b=0)&((((b=0)))))"), 1);
    is("one more behind its TEST", read("x(!b=0&[[[[[[b]]]]]]=0)"), -5012);
    is("six [ in the E of a RULE", read("f[[[[[[b]]]]]](b=0)"), 1);
    is("seven [ in the E of a RULE", read("f[[[[[[[b]]]]]]](b=0)"), -5007);
    is("the E stands ahead of the (", read("e[[[[[[b]]]]]]((((((b=0))))))"), 1);
    is("the next RULE begins anew", read("x((((((b=0))))));x((((((b=0))))))"), 2);
    is("[ that are not open in one another", read("f[b]+[b]+[b]+[b]+[b]+[b]+[b]+[b](b=0)"), 1);
    is("( that are not open in one another", read("x((b=0)&(b=0)&(b=0)&(b=0)&(b=0)&(b=0)&(b=0))"), 1);
    is("a seventh that can't stand there", read("x((((((b("), -1008);
    is("it is asked ahead of what is in it", read("x(((((((q"), -5007);
  }

  private static void firstFromTheLeft() {
    says("FAULTS, the first from the left: 1 what can't stand there (the end, too); 2 a sixth digit, at it; 4 a 17th"
        + " RULE, at its letter (if that can stand there); 5 a seventh of ( [ !");
    is("1 ahead of 2", read("x(a=123456)"), -1002);
    is("2 ahead of 1", read("x(b=123456q"), -2009);
    is("2 ahead of 5", read("x(123456=[[[[[[[b"), -2007);
    is("5 ahead of 2", read("x(!!!!!!123456=0)"), -5007);
    is("5 ahead of 1", read("x(!!!!!!q)"), -5007);
    is("1 ahead of 5", read("x(!!!!!a!!"), -1007);
    is("2 ahead of 4", read("x(b=0);".repeat(15) + "x(b=123456);x(b=0)"), -2114);
    is("4 ahead of 1", read("x(b=0);".repeat(16) + "xq"), -4112);
    is("5 ahead of 4", read("x(b=0);".repeat(15) + "x(!!!!!!b=0);x"), -5112);
  }
}

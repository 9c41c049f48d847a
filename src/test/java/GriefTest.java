/** Promises 8, 14: grief, rhyme. */
public final class GriefTest {
  private static final Due due = new Due("GriefTest");

  public static void main(String[] args) {
    deeds();
    rhymes();
    faults();
    lines();
    refused();
    due.end();
  }

  private static void deeds() {
    AfraidInk x = new AfraidInk();
    x.bottle(2, 0);
    x.bottle(3, 0);
    due.is("all deeds", Due.grief(x, 2, "a=7;b=07;c=99;d=50;d+49;e=50;e+50;f=50;f-50;g=50;g-51;!12;#3"), 13);
    int[] dread = {7, 7, 99, 99, 99, 0, 0};
    for (int w = 0; w < dread.length; w++) {
      due.is("DREAD of " + w, x.fear(2, w, 0), dread[w]);
    }
    due.is("SALT", x.bottleIs(2, 1), 12);
    due.is("KIND", x.bottleIs(2, 0), 3);
    due.is("the other BOTTLE", x.bottleIs(3, 4), 0);
    due.is("KIND anew", Due.grief(x, 2, "#0"), 1);
    due.is("DREAD stays by KIND", x.fear(2, 0, 0), 7);
    due.is("SALT 0", Due.grief(x, 2, "!0"), 1);
    due.is("SALT is 0", x.bottleIs(2, 1), 0);
    due.is("SALT 99", Due.grief(x, 2, "!99"), 1);
    due.is("SALT is 99", x.bottleIs(2, 1), 99);
    due.is("the tape is empty", x.count(6), 0);
  }

  private static void rhymes() {
    AfraidInk x = new AfraidInk();
    x.bottle(0, 0);
    x.bottle(1, 0);
    Due.grief(x, 0, "a~b;c~d");
    due.is("two twos", x.borne(2), 2);
    Due.grief(x, 1, "b~c");
    int[] want = {0, 2, 1, 3};
    for (int w = 0; w < want.length; w++) {
      due.is("rhyme(" + w + ")", x.rhyme(w), want[w]);
    }
    Due.grief(x, 1, "c~c");
    due.is("rhyme(1) of none", x.rhyme(1), 1);
    due.is("rhyme(2) of none", x.rhyme(2), 2);
    Due.grief(x, 1, "p~o;p~o;o~p");
    due.is("rhyme(15)", x.rhyme(15), 14);
    due.is("rhyme(14)", x.rhyme(14), 15);
    due.is("rhyme(16)", x.rhyme(16), -1);
    due.is("rhyme(-1)", x.rhyme(-1), -1);
    due.is("rhyme(MIN)", x.rhyme(Integer.MIN_VALUE), -1);
  }

  private static void faults() {
    String[] texts = {"q", "A", ";", "a", "a:", "a=", "a=;", "a=x", "a=123", "a+100", "a-000", "!", "!123", "!x",
        "#", "#5", "#44", "#0;", "a~", "a~q", "a~1", "a~bc", "a=1;;", "a=1b", "a=12b", "a=1 ", " a=1", "=1", "~",
        "a==1", "a=-1", "a=1;b=1;q", "a5", "a55", "ab", "!!1", "#0#0", "a~b5"};
    int[] want = {-1000, -1000, -1000, -1001, -1001, -1002, -1002, -1002, -2004, -2004, -2004, -1001, -2003, -1001,
        -1001, -1001, -1002, -1003, -1002, -1002, -1002, -1003, -1004, -1003, -1004, -1003, -1000, -1000, -1000,
        -1002, -1002, -1008, -1001, -1001, -1001, -1001, -1002, -1003};
    for (int k = 0; k < texts.length; k++) {
      AfraidInk x = new AfraidInk();
      x.bottle(0, 0);
      due.is("grief " + texts[k], Due.grief(x, 0, texts[k]), want[k]);
      due.is("emptied by " + texts[k], x.count(6), 0);
      due.is("nothing is done by " + texts[k], x.bottleIs(0, 4) + x.bottleIs(0, 1) + x.borne(2), 0);
    }
    AfraidInk x = new AfraidInk();
    x.bottle(0, 0);
    Due.feed(x, 'a', '=', '5', 200);
    due.is("a byte above 127", x.grief(0, 4), -1003);
    Due.grief(x, 0, "a=9;b~c;!3;#1;d=9;d");
    due.is("nothing is done: DREAD", x.fear(0, 0, 0), 0);
    due.is("nothing is done: RHYME", x.rhyme(1), 1);
    due.is("nothing is done: SALT", x.bottleIs(0, 1), 0);
    due.is("nothing is done: KIND", x.bottleIs(0, 0), 0);
  }

  private static void lines() {
    AfraidInk x = new AfraidInk();
    x.bottle(0, 0);
    String nineteen = "a+1;".repeat(19);
    due.is("20 LINES", Due.grief(x, 0, nineteen + "a+1"), 20);
    due.is("all twenty", x.fear(0, 0, 0), 20);
    due.is("a 21st by a letter", Due.grief(x, 0, nineteen + "a+1;a+1"), -4080);
    due.is("a 21st by !", Due.grief(x, 0, nineteen + "a+1;!"), -4080);
    due.is("a 21st by #", Due.grief(x, 0, nineteen + "a+1;#"), -4080);
    due.is("a 21st that can't stand", Due.grief(x, 0, nineteen + "a+1;q"), -1080);
    due.is("no 21st", Due.grief(x, 0, nineteen + "a+1;"), -1080);
    due.is("nothing is done", x.fear(0, 0, 0), 20);
    String longest = "a=11;".repeat(19) + "a=12;a=13";
    due.is("a FAULT from the left ahead of the 21st", Due.grief(x, 0, "a=1x" + longest), -1003);
  }

  private static void refused() {
    AfraidInk x = new AfraidInk();
    Due.feed(x, Due.bytesOf("a=5"));
    due.is("none told", x.grief(0, 3), -1);
    due.is("the tape stays", x.count(6), 20);
    x.bottle(0, 0);
    due.is("grief(-1, 3)", x.grief(-1, 3), -1);
    due.is("grief(8, 3)", x.grief(8, 3), -1);
    due.is("grief(0, 3)", x.grief(0, 3), 1);
    int[] longest = new int[121];
    java.util.Arrays.fill(longest, 'a');
    Due.feed(x, longest);
    due.is("121 bytes", x.grief(0, 121), -1);
    due.is("120 bytes", x.grief(0, 120), -1001);
  }
}

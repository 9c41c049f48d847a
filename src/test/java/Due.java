/** Counts the answers that are not as due, and feeds texts to a tape. */
final class Due {
  private final String name;
  private int asked = 0;
  private int wrong = 0;

  Due(String name) {
    this.name = name;
  }

  void is(String call, long got, long want) {
    asked++;
    if (got != want) {
      wrong++;
      System.out.println(name + ": " + call + " answered " + got + ", due is " + want);
    }
  }

  void is(String call, boolean got, boolean want) {
    is(call, got ? 1 : 0, want ? 1 : 0);
  }

  void end() {
    System.out.println(name + ": " + asked + " answers, " + wrong + " wrong");
    if (wrong != 0) {
      System.exit(1);
    }
  }

  static int[] bytesOf(String text) {
    int[] bytes = new int[text.length()];
    for (int i = 0; i < bytes.length; i++) {
      bytes[i] = text.charAt(i);
    }
    return bytes;
  }

  /** Feeds as many times twenty bytes as are needed; behind the bytes come zeros. */
  static void feed(AfraidInk x, int... bytes) {
    for (int from = 0; from < bytes.length; from += 20) {
      x.feed(four(bytes, from), four(bytes, from + 4), four(bytes, from + 8),
          four(bytes, from + 12), four(bytes, from + 16));
    }
  }

  static int four(int[] bytes, int from) {
    int bits = 0;
    for (int i = from; i < from + 4; i++) {
      bits = bits << 8 | (i < bytes.length ? bytes[i] & 255 : 0);
    }
    return bits;
  }

  static int law(AfraidInk x, String text) {
    feed(x, bytesOf(text));
    return x.law(text.length());
  }

  static int grief(AfraidInk x, int b, String text) {
    feed(x, bytesOf(text));
    return x.grief(b, text.length());
  }

  static int letter(AfraidInk x, String text) {
    feed(x, bytesOf(text));
    return x.letter(text.length());
  }
}

import java.util.Random;

/** Draws texts of the three languages, right ones and spoilt ones. */
final class Texts {
  private Texts() {
  }

  static String grief(Random draw) {
    StringBuilder text = new StringBuilder();
    int lines = draw.nextInt(8) == 0 ? 18 + draw.nextInt(4) : 1 + draw.nextInt(10);
    for (int k = 0; k < lines && text.length() < 110; k++) {
      text.append(k == 0 ? "" : ";");
      int kind = draw.nextInt(12);
      if (kind == 0) {
        text.append('!').append(draw.nextInt(100));
      } else if (kind == 1) {
        text.append('#').append(draw.nextInt(5));
      } else if (kind < 5) {
        text.append(word(draw)).append('~').append(word(draw));
      } else {
        text.append(word(draw)).append("==+-".charAt(draw.nextInt(4))).append(draw.nextInt(100));
      }
    }
    return text.toString();
  }

  private static char word(Random draw) {
    return (char) ('a' + (draw.nextBoolean() ? draw.nextInt(4) : draw.nextInt(16)));
  }

  static String letter(Random draw) {
    String text = words(draw, 0);
    return text.length() > 60 ? text.substring(0, 60) : text;
  }

  private static String words(Random draw, int depth) {
    StringBuilder text = new StringBuilder();
    int items = 1 + draw.nextInt(4);
    for (int k = 0; k < items; k++) {
      if (draw.nextInt(3) == 0) {
        text.append(2 + draw.nextInt(draw.nextInt(3) == 0 ? 8 : 2));
      }
      if (draw.nextInt(3) == 0 && depth < 2 + draw.nextInt(20) / 19) {
        text.append('(').append(words(draw, depth + 1)).append(')');
      } else {
        text.append(word(draw));
      }
    }
    return text.toString();
  }

  static String law(Random draw) {
    StringBuilder text = new StringBuilder();
    int rules = draw.nextInt(8) == 0 ? 15 + draw.nextInt(4) : 1 + draw.nextInt(5);
    for (int k = 0; k < rules; k++) {
      char kind = "feexf".charAt(draw.nextInt(5));
      String sum = kind == 'x' ? "" : rules > 10 ? factor(draw, 9) : sum(draw, 2);
      String rule = kind + sum + "(" + (rules > 10 ? test(draw, 9) : any(draw, 0)) + ")";
      if (text.length() + rule.length() < 240) {
        text.append(text.length() == 0 ? "" : ";").append(rule);
      }
    }
    return text.length() == 0 ? "f5(b=0)" : text.toString();
  }

  private static String any(Random draw, int depth) {
    String text = all(draw, depth);
    while (draw.nextInt(3) == 0) {
      text += "|" + all(draw, depth);
    }
    return text;
  }

  private static String all(Random draw, int depth) {
    String text = test(draw, depth);
    while (draw.nextInt(4) == 0) {
      text += "&" + test(draw, depth);
    }
    return text;
  }

  private static String test(Random draw, int depth) {
    int kind = draw.nextInt(8 + 3 * depth);
    if (kind == 0) {
      return "!" + test(draw, depth + 1);
    }
    if (kind == 1) {
      return "(" + any(draw, depth + 1) + ")";
    }
    return sum(draw, depth + 1) + "<>=".charAt(draw.nextInt(3)) + sum(draw, depth + 1);
  }

  private static String sum(Random draw, int depth) {
    String text = term(draw, depth);
    while (draw.nextInt(3 + depth) == 0) {
      text += "+-".charAt(draw.nextInt(2)) + term(draw, depth);
    }
    return text;
  }

  private static String term(Random draw, int depth) {
    String text = factor(draw, depth);
    while (draw.nextInt(3 + depth) == 0) {
      text += "*/%".charAt(draw.nextInt(3)) + factor(draw, depth);
    }
    return text;
  }

  private static String factor(Random draw, int depth) {
    int kind = draw.nextInt(8 + 2 * depth);
    if (kind == 0) {
      return "[" + sum(draw, depth + 1) + "]";
    }
    if (kind < 4) {
      int[] bounds = {3, 10, 30, 100, 100000};
      return "" + draw.nextInt(bounds[draw.nextInt(5)]);
    }
    return "" + "bkwvnsqidu".charAt(draw.nextInt(10));
  }

  /** Mostly as it is; else a sign is put in, taken out, doubled or changed, or the end is cut off. */
  static String spoilt(Random draw, String text) {
    StringBuilder other = new StringBuilder(text);
    int times = draw.nextInt(3) == 0 ? 1 + draw.nextInt(2) : 0;
    for (int k = 0; k < times && other.length() > 1; k++) {
      int at = draw.nextInt(other.length());
      String signs = "abkwvnpq0123456789()[]!;~#=+-*/%<>&|fex A\u00e9";
      char sign = signs.charAt(draw.nextInt(signs.length()));
      switch (draw.nextInt(6)) {
        case 0:
          other.insert(at, sign);
          break;
        case 1:
          other.deleteCharAt(at);
          break;
        case 2:
          other.setCharAt(at, sign);
          break;
        case 3:
          other.setLength(at + 1);
          break;
        case 4:
          other.insert(at, other.charAt(at));
          break;
        default:
          String open = draw.nextBoolean() ? "[" : draw.nextBoolean() ? "!" : "(";
          int opening = other.indexOf(open, at);
          for (int more = draw.nextInt(7); more >= 0; more--) {
            other.insert(opening < 0 ? at : opening, open);
          }
          break;
      }
    }
    return other.toString();
  }
}

import java.lang.reflect.Method;
import java.lang.reflect.Modifier;
import java.util.ArrayList;
import java.util.Arrays;
import java.util.HashMap;
import java.util.List;
import java.util.Map;

/**
 * Plays runs of calls on new objects. A run is a text; a row of it is a call, "->" and the answer that is due (a
 * boolean counts 1 or 0), perhaps "3x" ahead of it (so many times) and "//" with a remark behind it. A letter stands
 * for its WORD. A call that reads the tape is told with what it reads, which is fed first; with a dot ahead of its name
 * it is told by its numbers and reads what is on the tape.
 */
final class Play {
  private static final int MOST_CALLS = 512;
  private static final Map<String, Method> METHODS = new HashMap<>();

  private final Due due;
  private final List<String> names = new ArrayList<>();
  private final List<List<Step>> runs = new ArrayList<>();

  Play(Due due) {
    this.due = due;
  }

  /** A call with its numbers; "isAsked" if there is an answer that is due. */
  record Step(String told, String name, int[] args, boolean isAsked, int answer) {
  }

  void run(String name, String rows) {
    List<Step> steps = stepsOf(rows);
    // A run that is wrong as it is told would be so each time.
    if (play(name, steps, List.of(), false)) {
      names.add(name);
      runs.add(steps);
    }
  }

  /** All runs again with the same rows ahead of each call: the answers of the runs stay as they are. */
  void againWith(String rows) {
    again(rows, false);
  }

  /** The same for rows that feed: they come only where the tape is empty. */
  void againWithFed(String rows) {
    again(rows, true);
  }

  private void again(String rows, boolean areFed) {
    List<Step> between = stepsOf(rows);
    String told = " with " + rows.strip().replaceAll("\\s*\n\\s*", ", ") + " ahead of each call";
    for (int k = 0; k < runs.size(); k++) {
      play(names.get(k) + told, runs.get(k), between, areFed);
    }
  }

  /** Answers whether all is right; behind a wrong answer the run ends, for what follows may be wrong by it. */
  private boolean play(String name, List<Step> steps, List<Step> between, boolean areFed) {
    AfraidInk x = new AfraidInk();
    int calls = 0;
    for (Step step : steps) {
      // An object is used for 512 calls: a long run ends early if there are calls between.
      if (calls + between.size() + 2 > MOST_CALLS) {
        due.is(name + " has more than 512 calls", between.isEmpty(), false);
        return true;
      }
      if (!areFed || x.count(6) == 0) {
        for (Step one : between) {
          if (!isRight(name + ", ahead of " + step.told(), x, one)) {
            return false;
          }
        }
        calls += between.size();
      }
      calls += areFed ? 2 : 1;
      if (!isRight(name, x, step)) {
        return false;
      }
    }
    return true;
  }

  private boolean isRight(String name, AfraidInk x, Step step) {
    int got = call(x, step);
    if (step.isAsked()) {
      due.is(name + ": " + step.told(), got, step.answer());
    }
    return !step.isAsked() || got == step.answer();
  }

  static List<Step> stepsOf(String rows) {
    List<Step> steps = new ArrayList<>();
    for (String row : rows.split("\n")) {
      String told = row.replaceAll("//.*", "").strip();
      if (!told.isEmpty()) {
        boolean isMany = told.matches("\\d+x .*");
        int times = isMany ? Integer.parseInt(told.substring(0, told.indexOf('x'))) : 1;
        for (int k = 0; k < times; k++) {
          addSteps(steps, isMany ? told.substring(told.indexOf('x') + 2) : told);
        }
      }
    }
    return steps;
  }

  private static void addSteps(List<Step> steps, String told) {
    String[] halves = told.split(" -> ");
    String[] words = halves[0].strip().split(" +");
    boolean isAsked = halves.length > 1;
    int answer = isAsked ? Integer.parseInt(halves[1].strip()) : 0;
    String name = words[0];
    String[] args = Arrays.copyOfRange(words, 1, words.length);
    if (name.startsWith(".")) {
      steps.add(new Step(told, name.substring(1), numbers(args), isAsked, answer));
      return;
    }
    int[] bytes = new int[0];
    int[] numbers;
    switch (name) {
      case "feed":
        steps.add(new Step(told, name, five(Due.bytesOf(args[0]), 0), isAsked, answer));
        return;
      case "law":
      case "grief":
      case "letter":
        bytes = Due.bytesOf(args[args.length - 1]);
        args[args.length - 1] = "" + bytes.length;
        numbers = numbers(args);
        break;
      case "whose":
      case "forgery":
      case "rings":
      case "check":
        bytes = bytes(args[0]);
        args[0] = "" + (name.equals("whose") ? bytes.length / 2 : bytes.length);
        numbers = numbers(args);
        break;
      case "training":
        bytes = bytes(args[1]);
        args[1] = "" + bytes.length;
        numbers = numbers(args);
        break;
      case "treaty":
        bytes = bytes(args[2]);
        numbers = new int[] {number(args[0]), number(args[1]), number(args[3])};
        break;
      default:
        numbers = numbers(args);
        break;
    }
    for (int from = 0; from < bytes.length; from += 20) {
      steps.add(new Step("the feed of " + told, "feed", five(bytes, from), true, from + 20));
    }
    steps.add(new Step(told, name, numbers, isAsked, answer));
  }

  private static int[] bytes(String told) {
    return numbers(told.split(","));
  }

  private static int[] numbers(String[] told) {
    return Arrays.stream(told).mapToInt(Play::number).toArray();
  }

  private static int number(String told) {
    return told.matches("[a-p]") ? told.charAt(0) - 'a' : Integer.parseInt(told);
  }

  private static int[] five(int[] bytes, int from) {
    int[] five = new int[5];
    for (int k = 0; k < 5; k++) {
      five[k] = Due.four(bytes, from + 4 * k);
    }
    return five;
  }

  /** Asks the class or the Model: both have the same calls. A boolean counts 1 or 0. */
  static int call(Object chancery, Step step) {
    try {
      Method method = METHODS.computeIfAbsent(chancery.getClass().getName() + " " + step.name(),
          key -> methodOf(chancery, step.name()));
      Object[] args = method.isVarArgs()
          ? new Object[] {step.args()} : Arrays.stream(step.args()).boxed().toArray();
      Object answer = method.invoke(chancery, args);
      return answer instanceof Boolean ? (Boolean) answer ? 1 : 0 : (Integer) answer;
    } catch (ReflectiveOperationException e) {
      throw new IllegalStateException("no answer to " + step.told(), e);
    }
  }

  private static Method methodOf(Object chancery, String name) {
    return Arrays.stream(chancery.getClass().getDeclaredMethods())
        .filter(method -> method.getName().equals(name) && !Modifier.isPrivate(method.getModifiers()))
        .findFirst().orElseThrow(() -> new IllegalArgumentException("no such call: " + name));
  }
}

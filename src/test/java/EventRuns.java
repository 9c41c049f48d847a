import java.util.ArrayList;
import java.util.List;

/**
 * Whatever can happen to a chancery with a past, in all rows of three one behind the other: what is asked behind them
 * must be answered as the Model does. (Of guard the Model tries all WORDS, which is slow: AgreeRuns asks it.)
 */
final class EventRuns {
  private static final String PAST = """
      bottle 0 0
      bottle 1 4
      bottle 5 1
      grief 0 a=30;b=12;c=21;a~b
      grief 1 a=25;b=40;d=60;!3
      grief 5 a=11;c=8;d=30;c~d
      letter 2(ab)2cd
      law f9(u>6);e3(b=1&w=3);x(b=5&n=7)
      days 2
      """;

  /** GRIEF, LETTER and THE LAW told again, right ones and faulty ones; BOTTLES anew; KEPT, UNDONE; calls refused. */
  private static final String[] EVENTS = {
    "days 1", "days 5", "grief 0 a=40;c+30;b-9", "grief 1 a~c;d~d", "grief 5 #4;!12", "letter 9a3d", "letter 2(bd)c",
    "law f[v/2]+n(b<5);e9-n(w<2)", "law x(b=0|d%2=1)", "bottle 0 1", "bottle 5 4", "pressed 1 77", "ink 0 4",
    "nerve 11", "seed 9", "keep", "undo", "grief 0 a=1;d=2;z", "letter ab(", "law f9(b", "bottle 0 5", "days 61",
    "training 0 a,b,c 0",
  };

  private static final String ASKED = """
      tried 3 0
      tried 3 1
      tried 3 2
      tried 3 100
      tried 3 201
      used 0 a 9
      used 5 d 9
      changes 100
      changes 101
      changes 0
      changes 5
      leastSalt 0
      leastSalt 5
      mixture 0 1 0
      mixture 1 5 1
      whose a,1,c,0
      next 35 0
      next 33 1
      training 0 a,b,c 0
      training 1 a,b,d 1
      training 5 d,c,a 0
      borne 0
      borne 1
      borne 2
      treaty 1 2 1,2,3,4 1
      forgery 3,5 2
      rings 1,0,2 1
      rhyme a
      rhyme d
      undo
      check 0,3,255,255,255,12
      """;

  private EventRuns() {
  }

  static void play(Due due) {
    List<List<Play.Step>> events = new ArrayList<>();
    for (String event : EVENTS) {
      events.add(Play.stepsOf(event));
    }
    List<Play.Step> past = Play.stepsOf(PAST);
    List<Play.Step> asked = asked();
    for (int i = 0; i < EVENTS.length; i++) {
      for (int j = 0; j < EVENTS.length; j++) {
        for (int k = 0; k < EVENTS.length; k++) {
          AfraidInk x = new AfraidInk();
          Model y = new Model();
          String name = EVENTS[i] + ", " + EVENTS[j] + ", " + EVENTS[k];
          boolean isRight = areAlike(due, "the past", x, y, past)
              && areAlike(due, name, x, y, events.get(i)) && areAlike(due, name, x, y, events.get(j))
              && areAlike(due, name, x, y, events.get(k)) && areAlike(due, name, x, y, asked);
          if (!isRight) {
            return;
          }
        }
      }
    }
  }

  /** All that is held, then what follows of it, then all that is held behind one more UNDO. */
  private static List<Play.Step> asked() {
    StringBuilder held = new StringBuilder();
    for (int what = 0; what <= 8; what++) {
      held.append("count ").append(what).append('\n');
    }
    for (int b : new int[] {0, 1, 5}) {
      for (int what = 0; what <= 4; what++) {
        held.append("bottleIs ").append(b).append(' ').append(what).append('\n');
      }
      for (int w = 0; w < 4; w++) {
        for (int what = 0; what < 3; what++) {
          held.append("fear ").append(b).append(' ').append(w).append(' ').append(what).append('\n');
        }
      }
    }
    return Play.stepsOf(held + ASKED + held);
  }

  private static boolean areAlike(Due due, String name, AfraidInk x, Model y, List<Play.Step> steps) {
    for (Play.Step step : steps) {
      int got = Play.call(x, step);
      int want = Play.call(y, step);
      if (got != want) {
        due.is(name + ": " + step.told(), got, want);
        return false;
      }
    }
    due.is(name, 0, 0);
    return true;
  }
}

/**
 * Runs of calls in which the promises meet one another. Each run is played as it is told, and then again with calls
 * ahead of each of its calls that are refused, have a FAULT or only ask: its answers must stay.
 */
public final class MeetTest {
  /** Each is refused in any state, and leaves the tape. */
  private static final String[] REFUSED = {
    "bottle 8 0 -> 0", "bottle -1 0 -> 0", "bottle 0 5 -> 0", "bottle 3 -1 -> 0", "ink 0 1000 -> 0", "ink 0 -1 -> 0",
    "ink 8 5 -> 0", "nerve 100 -> 0", "nerve -1 -> 0", "pressed 0 65536 -> -1", "pressed 0 -1 -> -1",
    "pressed 8 1 -> -1", ".law 0 -> -1", ".law 241 -> -1", ".grief 0 0 -> -1", ".grief 0 121 -> -1",
    ".grief 8 1 -> -1", ".letter 0 -> -1", ".letter 61 -> -1", "days 0 -> -1", "days 61 -> -1", "days -5 -> -1",
    "tried 0 0 -> -1", "tried 61 0 -> -1", "tried 1 3 -> -1", "tried 1 108 -> -1", "tried 1 208 -> -1",
    "bottleIs 0 5 -> -1", "bottleIs 8 0 -> -1", "fear 0 16 0 -> -1", "fear 0 0 3 -> -1", "fear -1 0 0 -> -1",
    "rhyme 16 -> -1", "used 0 0 0 -> -1", "used 0 0 61 -> -1", "used 0 16 5 -> -1", "changes 102 -> -1",
    "changes 48 -> -1", "changes -1 -> -1", "leastSalt 8 -> -1", "mixture 0 0 0 -> -1", "mixture 0 1 2 -> -1",
    ".whose 0 -> -1", ".whose 13 -> -1", "next 0 0 -> -1", "next 256 0 -> -1", "next 1 2 -> -1", "guard 2 -> -1",
    ".training 0 0 0 -> -1", ".training 0 7 0 -> -1", ".training 0 1 2 -> -1", ".training 8 1 0 -> -1",
    "borne 3 -> -1", ".treaty 0 1 0 -> -1", ".treaty 1 7 0 -> -1", ".treaty 1 1 3 -> -1", ".forgery 0 0 -> -1",
    ".forgery 10 0 -> -1", ".forgery 1 4 -> -1", ".rings 0 0 -> -1", ".rings 13 0 -> -1", ".rings 1 2 -> -1",
    "seed 65536 -> 0", "seed -1 -> 0", ".check 9 -> -2", ".check -1 -> -2", "count 9 -> -1", "count -1 -> -1",
  };

  /** Each empties the tape and changes nothing else; GRIEF may find no BOTTLE, and then the tape is emptied by check. */
  private static final String[] FAULTY = {
    "law q -> -1000", "law f1(b=0);x(b<9)x -> -1014", "law x(b<9);e123456(b=0) -> -2013",
    "law x(b<9);x(!!!!!!b<9) -> -5014", "letter q -> -1000", "letter 9pp( -> -1004", "letter ((( -> -5002",
    "letter 7(7p) -> -6000", "letter a)p -> -1001", "whose a,2 -> -3", "whose 16,0 -> -3", "forgery 1,11 0 -> -3",
    "rings 0,0 0 -> -3", "rings 1,2 1 -> -3", "treaty 1 1 255,255 2 -> 1", "forgery 10 1 -> 1", "rings 0 0 -> 1",
    "grief 0 a=9;b=9;!9;#3;a~p;z\n.check 0 -> -1", "grief 0 p=100\n.check 0 -> -1", "training 0 a,a 0\n.check 0 -> -1",
    "training 0 16 0\n.check 0 -> -1", "training 0 a,b,c,d 1\n.check 0 -> -1", "check 254,0,9 -> 0",
  };

  /** Each only asks. */
  private static final String[] ASKING = {
    "tried 60 0", "tried 7 2", "tried 60 200", "used 0 a 60", "changes 100", "changes 0", "leastSalt 0",
    "mixture 0 1 0", "next 1 0", "guard 1", "borne 0", "borne 2", "bottleIs 0 3", "bottleIs 0 2", "fear 0 a 2",
    "rhyme a", "count 6", "count 7",
  };

  private static final Due due = new Due("MeetTest");

  public static void main(String[] args) {
    Play play = new Play(due);
    ToldAgainRuns.tell(play);
    KeptRuns.tell(play);
    AnewRuns.tell(play);
    AskedRuns.tell(play);
    for (String rows : REFUSED) {
      play.againWith(rows);
    }
    for (String rows : FAULTY) {
      play.againWithFed(rows);
    }
    for (String rows : ASKING) {
      play.againWith(rows);
    }
    AgreeRuns.play(due);
    EventRuns.play(due);
    due.end();
  }
}

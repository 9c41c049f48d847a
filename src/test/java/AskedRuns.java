/** What is asked meets what is done: TRAINING and DAYS, BOTTLES that BEAR and what follows of it, the tape between. */
final class AskedRuns {
  private AskedRuns() {
  }

  static void tell(Play play) {
    trainingByDays(play);
    bearing(play);
    tapeBetween(play);
    tables(play);
    refusedBetween(play);
    seedBetween(play);
    readme(play);
  }

  private static void trainingByDays(Play play) {
    play.run("TRAINING that is done on DAYS", """
        bottle 0 0 -> 1
        grief 0 a=30;b=25;c=50;a~b -> 4
        letter 2a3c -> 5
        days 1 -> 0
        training 0 a,b,c 0 -> 22    // 7 of a, 9 of b, 6 of c
        training 0 a,b,c 1 -> 0
        training 0 c,b 0 -> 15
        training 0 c,b 1 -> 1
        training 0 a,b,a 0 -> -3
        letter 7a -> 7
        days 1 -> 0
        fear 0 b 0 -> 34
        training 0 a,b,c 0 -> 15
        training 0 a,b,c 1 -> 1
        letter 9b -> 9
        days 1 -> 0
        fear 0 a 0 -> 9
        fear 0 b 0 -> 0
        letter 6c -> 6
        days 1 -> 0
        training 0 a,b,c 0 -> 0
        training 0 a,b,c 1 -> -2
        bottleIs 0 3 -> 65535
        count 3 -> 27
        nerve 8 -> 1
        training 0 a 0 -> 9
        training 0 a,b 0 -> -4      // of two RHYMES one has 9 then
        grief 0 a~a -> 1
        training 0 a,b 0 -> 9
        bottle 0 1 -> 1
        training 0 a,b 0 -> 0
        """);
  }

  private static void bearing(Play play) {
    play.run("which BOTTLES BEAR, before and behind DAYS", """
        bottle 0 0 -> 1
        bottle 3 0 -> 1
        bottle 6 0 -> 1
        grief 0 a=21;b=21 -> 2
        grief 3 a=21 -> 1
        grief 6 b=21;c=30 -> 2
        borne 0 -> 65528
        borne 1 -> 0
        guard 0 -> 2
        guard 1 -> 3
        next 73 0 -> 0
        next 73 1 -> 2
        next 9 0 -> 1
        next 9 1 -> 1
        whose a,0,b,1 -> 8
        whose c,0 -> 64
        whose c,1 -> 9
        whose d,1 -> 73
        whose a,0,a,1 -> 0
        letter abc -> 3
        changes 100 -> 1
        changes 0 -> 6
        changes 1 -> 3
        changes 2 -> 3
        days 1 -> 3                 // by BOTTLES 6, 3 and 0
        fear 6 a 1 -> 1
        fear 3 b 1 -> 1
        fear 0 c 1 -> 1
        law x(!b=0) -> 1
        letter 9a -> 9
        days 1 -> 0                 // BOTTLE 0 is USED to a by what beads up
        guard 0 -> 2
        guard 1 -> 5
        changes 100 -> 0
        changes 8 -> 0
        letter abc -> 3
        changes 100 -> 1
        changes 0 -> 0
        changes 1 -> 3
        changes 2 -> 3
        whose a,1,b,0 -> 65
        nerve 21 -> 1
        guard 0 -> -2
        next 9 0 -> 0
        next 9 1 -> 2
        whose c,0 -> 64
        borne 0 -> 65531
        changes 100 -> 0
        changes 2 -> 0
        grief 0 c=22 -> 1
        changes 100 -> 0
        changes 0 -> 3
        borne 1 -> 0
        grief 3 c=22 -> 1
        borne 1 -> 4
        changes 101 -> 1
        changes 2 -> -2
        changes 0 -> 0
        """);
  }

  private static void tapeBetween(Play play) {
    play.run("the tape between other calls", """
        feed 8a -> 20
        bottle 0 0 -> 1
        days 1 -> 0                 // there is no LETTER
        keep -> 1
        .letter 61 -> -1
        .letter 21 -> -1
        undo -> 1
        .grief 1 2 -> -1
        count 6 -> 20
        .letter 2 -> 8
        count 6 -> 0
        .letter 2 -> -1
        count 8 -> 8
        feed a=30;b=25;c=12;d=13; -> 20
        days 1 -> 8
        feed e=9 -> 40
        nerve 15 -> 1
        undo -> 1                   // the tape stays
        .grief 0 23 -> 5
        bottleIs 0 4 -> 89
        count 6 -> 0
        13x feed a
        count 6 -> 260
        feed a -> -1
        .law 241 -> -1
        .grief 0 121 -> -1
        .treaty 6 6 3 -> -1
        .training 1 1 0 -> -1
        .check 9 -> -2
        count 6 -> 260
        days 1 -> 0                 // a has 30
        .law 240 -> -1000
        count 6 -> 0
        feed f9(b=0) -> 20
        .letter 7 -> -1004          // f is a WORD, 9(b begins a round; = can't stand there
        count 6 -> 0
        count 8 -> 8                // the one before stays
        """);
  }

  private static void tables(Play play) {
    play.run("tables between DAYS", """
        bottle 0 0 -> 1
        grief 0 a=15 -> 1
        letter 4a -> 4
        days 1 -> 4
        treaty 2 2 3,3,0,5,5,0,1,1 0 -> 1
        days 1 -> 4
        treaty 2 2 3,3,0,5,5,0,1,1 1 -> 7
        treaty 2 2 3,3,0,5,5,0,1,1 2 -> 3
        forgery 5,5 0 -> 1
        forgery 5,5 1 -> 4
        forgery 5,5 2 -> 3
        forgery 5,11 3 -> -3
        rings 1,0,3,4,2 0 -> 2
        rings 1,0,3,4,2 1 -> 6
        rings 1,0,3,4,1 1 -> -3
        fear 0 a 1 -> 8
        keep -> 2
        days 1 -> 4                 // the ninth try is the first
        treaty 1 1 0,0 1 -> 0
        undo -> 1
        forgery 10 1 -> 1
        fear 0 a 1 -> 8
        tried 1 2 -> 1
        rings 0 1 -> 1
        tried 1 200 -> 0
        count 7 -> 19417
        """);
  }

  private static void refusedBetween(Play play) {
    play.run("refused in the middle", """
        bottle 0 0 -> 1
        bottle 8 0 -> 0
        grief 0 a=30;b=12 -> 2
        feed a=99 -> 20
        .grief 1 4 -> -1
        .grief 0 0 -> -1
        .grief 0 21 -> -1
        .grief 0 4 -> 1             // the tape stayed
        fear 0 a 0 -> 99
        grief 0 a=30;b=1c -> -1008
        fear 0 a 0 -> 99
        letter ab -> 2
        days 61 -> -1
        days 0 -> -1
        count 0 -> 0
        days 8 -> 8
        nerve 100 -> 0
        nerve -1 -> 0
        ink 0 1000 -> 0
        ink 1 5 -> 0
        pressed 0 -1 -> -1
        undo -> 0
        seed -1 -> 0
        law e(b=0) -> -1001
        letter 2 -> -1001
        fear 0 a 1 -> 8
        fear 0 b 1 -> 8
        bottleIs 0 2 -> 983
        count 2 -> 20
        count 5 -> 0
        count 8 -> 2
        tried 61 0 -> -1
        tried 1 101 -> -1
        tried 1 2 -> 2
        days 1 -> 1                 // the ninth try of both
        bottleIs 0 4 -> 0
        keep -> 9
        days 1 -> 2
        bottle 0 9 -> 0
        seed 65536 -> 0
        undo -> 1
        count 0 -> 9
        count 4 -> 9
        count 3 -> 9
        changes 48 -> -1
        changes 2 -> -4
        changes 100 -> 0
        training 0 a,a 0 -> -3
        whose 16,1 -> -3
        whose a,2 -> -3
        whose a,1 -> 1
        """);
  }

  private static void seedBetween(Play play) {
    play.run("THE SEED between DAYS", """
        bottle 0 0 -> 1
        letter 2a -> 2
        law f[u-5]*30(0<1) -> 1     // beads up by a DRAW above 5
        tried 4 1 -> 5              // 2 7, 6 5, 2 9, 6 7
        days 2 -> 2
        seed 0 -> 1
        tried 2 0 -> 3              // 9 2, 3 0
        used 0 a 3 -> 0
        days 1 -> 1
        keep -> 3
        seed 7 -> 1
        tried 1 1 -> 1              // 8 5
        days 1 -> 1
        count 7 -> 4085
        undo -> 1
        count 7 -> 48742
        days 1 -> 2                 // 3 0: the ninth try is still to come
        fear 0 a 1 -> 8
        tried 1 0 -> 1              // 5 6
        tried 1 2 -> 1
        """);
  }

  private static void readme(Play play) {
    play.run("the example of README.md", """
        bottle 0 0 -> 1
        grief 0 a=30 -> 1
        letter ab -> 2
        keep -> 0
        days 1 -> 1
        fear 0 a 1 -> 1
        used 0 a 60 -> 8
        leastSalt 0 -> 10
        undo -> 1
        count 0 -> 0
        """);
  }
}

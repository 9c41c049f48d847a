/** BOTTLES told anew, PRESSED anew or filled anew that had TRIES. */
final class AnewRuns {
  private AnewRuns() {
  }

  static void tell(Play play) {
    bottleAnew(play);
    oneOfTwoAnew(play);
    pressedAnew(play);
    inkAnew(play);
    anewInAskedCalls(play);
  }

  private static void bottleAnew(Play play) {
    play.run("a BOTTLE anew that had TRIES", """
        bottle 0 0 -> 1
        grief 0 a=40;a~b;!3 -> 3
        ink 0 500 -> 1
        letter 8a -> 8
        days 1 -> 0
        fear 0 a 1 -> 8
        training 0 a 0 -> 1
        used 0 a 5 -> 1
        bottle 0 5 -> 0
        bottle 0 -1 -> 0
        fear 0 a 1 -> 8
        bottle 0 0 -> 1
        bottleIs 0 1 -> 0
        bottleIs 0 2 -> 999
        bottleIs 0 3 -> 65535
        bottleIs 0 4 -> 0
        fear 0 a 1 -> 0
        rhyme a -> 1
        count 0 -> 1
        count 3 -> 8
        count 7 -> 19417
        training 0 a 0 -> 0
        grief 0 a=40 -> 1
        training 0 a 0 -> 9
        training 0 a 1 -> 0
        used 0 a 1 -> -2
        used 0 a 5 -> 2
        days 1 -> 0             // it needs nine tries again
        days 1 -> 7
        fear 0 b 0 -> 9
        fear 0 a 1 -> 7
        bottleIs 0 2 -> 983
        count 3 -> 17
        """);
  }

  private static void oneOfTwoAnew(Play play) {
    play.run("one of two BOTTLES anew", """
        bottle 0 0 -> 1
        bottle 1 0 -> 1
        grief 0 a=50 -> 1
        grief 1 a=60 -> 1
        letter 6a -> 6
        days 1 -> 0             // by BOTTLE 0, of less FEAR
        fear 0 a 1 -> 6
        fear 1 a 1 -> 0
        bottle 0 2 -> 1
        grief 0 a=99 -> 1       // of a BOLD one 49
        days 1 -> 0
        fear 0 a 1 -> 6
        grief 1 a-20 -> 1
        days 1 -> 0             // 40 is less than 49
        fear 1 a 1 -> 6
        bottle 1 1 -> 1
        fear 0 a 1 -> 6         // the other one stays
        fear 1 a 1 -> 0
        days 1 -> 6
        fear 0 a 1 -> 6
        fear 1 a 1 -> 6
        days 1 -> 6
        fear 1 a 1 -> 3
        bottleIs 0 2 -> 993
        bottleIs 1 2 -> 987
        count 1 -> 3
        """);
  }

  private static void pressedAnew(Play play) {
    play.run("PRESSED that had TRIES", """
        bottle 0 4 -> 1
        grief 0 a=30;!9;a~b -> 3
        ink 0 9 -> 1
        letter 5a -> 5
        days 1 -> 5             // the mean of 30 and 0 less 9
        fear 0 a 1 -> 5
        pressed 0 7 -> 690      // DRAWS of 7: 8 5, 0 7, 0 1, ..
        bottleIs 0 0 -> 4
        bottleIs 0 1 -> 0
        bottleIs 0 2 -> 999
        fear 0 a 1 -> 0
        fear 0 a 0 -> 85
        fear 0 b 0 -> 7
        rhyme a -> 1
        fear 0 a 2 -> 46        // the mean of 85 and 7
        count 7 -> 3882         // X stays: five DRAWS
        days 1 -> 0
        days 1 -> 1             // the fourth is the ninth try; then the mean of 0 and 16
        fear 0 b 0 -> 16
        fear 0 a 2 -> 8
        fear 0 a 1 -> 1
        pressed 0 7 -> 690
        grief 0 #0 -> 1
        fear 0 a 2 -> 85
        seed 7 -> 1
        letter a -> 1
        days 1 -> 0
        count 7 -> 58988        // the same row of DRAWS begins with 8
        """);
  }

  private static void inkAnew(Play play) {
    play.run("INK anew", """
        bottle 0 0 -> 1
        bottle 1 0 -> 1
        grief 1 a=15 -> 1
        ink 0 5 -> 1
        letter 9a -> 9
        days 1 -> 9             // five by BOTTLE 0, four by BOTTLE 1
        bottleIs 0 2 -> 0
        fear 0 a 1 -> 5
        fear 1 a 1 -> 4
        ink 1 3 -> 1
        tried 1 0 -> 3
        tried 1 1 -> 6
        tried 1 101 -> 0
        days 1 -> 3
        fear 1 a 1 -> 7
        ink 0 1000 -> 0
        days 1 -> 0
        count 3 -> 15
        changes 0 -> 0          // INK aside
        ink 0 4 -> 1
        tried 2 2 -> 1
        days 1 -> 4             // the fourth is the ninth try
        fear 0 a 1 -> 0
        bottleIs 0 2 -> 0
        bottle 1 0 -> 1
        days 1 -> 9
        bottleIs 1 2 -> 990
        count 3 -> 20
        """);
  }

  private static void anewInAskedCalls(Play play) {
    play.run("a BOTTLE anew in what is asked", """
        bottle 1 0 -> 1
        bottle 2 0 -> 1
        grief 1 a=90;b=10 -> 2
        grief 2 a=10;b=90 -> 2
        letter ab -> 2
        days 9 -> 18
        fear 2 a 0 -> 0         // both are USED to what they bear
        fear 1 b 0 -> 0
        guard 0 -> 1
        guard 1 -> 1
        changes 100 -> 1
        changes 0 -> 2
        leastSalt 1 -> 70
        mixture 1 2 0 -> -2     // of a i is 1 at most, of b 7 at least
        bottle 1 2 -> 1
        guard 1 -> 2
        changes 100 -> 0
        changes 0 -> 1
        leastSalt 1 -> 0
        mixture 1 2 0 -> 7
        mixture 1 2 1 -> 2
        whose a,1,b,1 -> 2
        whose b,0 -> 4
        next 6 0 -> 1
        borne 0 -> 65533
        bottle 2 3 -> 1
        guard 0 -> -2
        guard 1 -> -2
        next 6 0 -> 0
        next 6 1 -> 2
        borne 0 -> 65535
        mixture 1 2 1 -> 9
        """);
  }
}

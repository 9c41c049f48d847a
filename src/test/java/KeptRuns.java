/** What is KEPT and UNDONE between other calls, and what is not. */
final class KeptRuns {
  private KeptRuns() {
  }

  static void tell(Play play) {
    allThatIsKept(play);
    daysGoAgain(play);
    bottlesAsKept(play);
    lastDay(play);
    mostPictures(play);
    mostWritten(play);
    pressedAndUndone(play);
  }

  private static void allThatIsKept(Play play) {
    play.run("KEPT and not KEPT", """
        undo -> 0
        bottle 0 0 -> 1
        grief 0 a=30;b=5 -> 2
        letter ab -> 2
        days 4 -> 4
        undo -> 0
        keep -> 4
        count 7 -> 19417
        letter 5a -> 5
        law f99(b=0) -> 1
        grief 0 a~b;a=1;#3;!9 -> 4
        nerve 3 -> 1
        days 2 -> 0
        fear 0 a 1 -> 5         // four and ten tries
        fear 0 b 0 -> 14
        bottle 5 2 -> 1
        count 1 -> 33
        feed xyz -> 20
        undo -> 1
        count 0 -> 4
        count 1 -> 1
        count 2 -> 20
        count 3 -> 4
        count 4 -> 4
        count 5 -> 1            // THE LAW, the tape and the LETTER stay
        count 6 -> 20
        count 7 -> 19417
        count 8 -> 5
        rhyme a -> 1            // and so do RHYMES
        bottleIs 0 0 -> 0
        bottleIs 0 1 -> 0
        bottleIs 0 2 -> 991
        fear 0 a 0 -> 30
        fear 0 b 0 -> 5
        fear 0 a 1 -> 4
        fear 0 b 1 -> 4
        bottleIs 5 0 -> -1
        .check 0 -> -1
        count 6 -> 0
        days 1 -> 0             // by the LETTER and THE LAW of now
        fear 0 a 0 -> 0
        fear 0 a 1 -> 0
        fear 0 b 0 -> 14        // and by the RHYME of now
        count 3 -> 9
        undo -> 1
        fear 0 a 1 -> 4
        law f0(b=0) -> 1
        letter 5b -> 5
        days 1 -> 5
        fear 0 b 0 -> 0
        fear 0 a 0 -> 39
        """);
  }

  private static void daysGoAgain(Play play) {
    play.run("DAYS go again as they went", """
        bottle 0 0 -> 1
        grief 0 a=25;b=18 -> 2
        letter 3(ab) -> 6
        law fu/2(w=1) -> 1
        keep -> 0
        days 1 -> 1             // DRAWS of b 7 5 9: FEAR 21, 20, 22
        days 1 -> 1             // 7 9 1
        days 1 -> 2             // 9 3 3; the ninth try of both
        fear 0 a 0 -> 0
        fear 0 b 0 -> 0
        undo -> 1
        count 7 -> 1
        fear 0 a 1 -> 0
        tried 3 0 -> 4
        tried 2 1 -> 10
        days 2 -> 2
        keep -> 2
        tried 1 0 -> 2
        tried 1 2 -> 2
        tried 1 200 -> 0
        days 1 -> 2
        tried 1 0 -> 6
        undo -> 1               // as they were KEPT last
        count 0 -> 2
        fear 0 b 1 -> 6
        fear 0 b 0 -> 18
        seed 1 -> 1
        days 1 -> 1             // by the DRAWS of the first DAY
        fear 0 b 1 -> 0
        undo -> 1
        undo -> 1
        count 7 -> 16421
        days 1 -> 2
        seed 65536 -> 0
        undo -> 1
        count 0 -> 2
        """);
  }

  private static void bottlesAsKept(Play play) {
    play.run("BOTTLES as they were KEPT", """
        bottle 3 1 -> 1
        grief 3 a=40;!7 -> 2
        ink 3 50 -> 1
        letter 4a -> 4
        days 1 -> 0
        keep -> 1
        bottle 3 2 -> 1
        bottle 4 0 -> 1
        fear 3 a 1 -> 0
        bottleIs 3 2 -> 999
        days 1 -> 4
        check 255,255,255,0,0 -> -1
        undo -> 1
        check 255,255,255,7,255 -> -1
        bottleIs 3 0 -> 1
        bottleIs 3 1 -> 7
        bottleIs 3 2 -> 46
        fear 3 a 0 -> 40
        fear 3 a 1 -> 4
        bottleIs 4 0 -> -1
        ink 4 5 -> 0
        pressed 4 1 -> -1
        next 24 0 -> -1
        mixture 3 4 0 -> -1
        training 3 a 0 -> 5
        days 2 -> 3             // the ninth try is the first of the second DAY
        fear 3 a 1 -> 3
        bottleIs 3 2 -> 38
        bottle 4 0 -> 1
        keep -> 3
        undo -> 1
        bottleIs 4 2 -> 999
        """);
  }

  private static void lastDay(Play play) {
    play.run("the last DAY", """
        letter a -> 1
        166x days 60 -> 0
        count 3 -> 9960         // no BOTTLE
        count 7 -> 53113
        keep -> 9960
        bottle 0 0 -> 1
        days 60 -> 39
        count 0 -> 9999
        count 7 -> 22840
        bottleIs 0 2 -> 960
        fear 0 a 1 -> 3
        days 1 -> 0
        tried 5 0 -> 0
        tried 5 1 -> 0
        tried 5 100 -> 960
        grief 0 a=50 -> 1
        used 0 a 60 -> -2       // none goes by
        nerve 50 -> 1
        used 0 a 60 -> 0
        keep -> 9999
        undo -> 1
        count 0 -> 9999
        bottle 0 0 -> 1
        days 60 -> 0
        bottleIs 0 2 -> 999
        count 4 -> 39
        """);
    play.run("back from the last DAY", """
        letter a -> 1
        166x days 60 -> 0
        keep -> 9960
        days 60 -> 0
        count 0 -> 9999
        undo -> 1
        count 0 -> 9960
        count 7 -> 53113
        bottle 0 2 -> 1
        days 38 -> 38
        days 2 -> 1
        days 2 -> 0
        count 3 -> 9960
        """);
  }

  private static void mostPictures(Play play) {
    play.run("9999 PICTURES", """
        letter 6(8a) -> 48
        3x days 60 -> 0
        count 3 -> 8640
        keep -> 180
        days 60 -> 0
        count 3 -> 9999
        tried 1 1 -> 48
        bottle 0 0 -> 1
        days 1 -> 48
        count 3 -> 9999
        count 4 -> 48
        undo -> 1
        count 3 -> 8640
        count 4 -> 0
        days 28 -> 0
        count 3 -> 9984
        days 1 -> 0
        count 3 -> 9999
        """);
  }

  private static void mostWritten(Play play) {
    play.run("9999 WRITTEN", """
        bottle 0 3 -> 1
        letter 6(8a) -> 48
        %s
        count 4 -> 9600
        keep -> 200
        ink 0 999 -> 1
        days 8 -> 384
        count 4 -> 9984
        tried 1 0 -> 48
        days 1 -> 48
        count 4 -> 9999
        count 3 -> 0
        undo -> 1
        count 4 -> 9600
        bottleIs 0 2 -> 39
        days 1 -> 39            // then there is no INK
        count 3 -> 9
        """.formatted("ink 0 999 -> 1\ndays 20 -> 960\n".repeat(10)));
  }

  private static void pressedAndUndone(Play play) {
    play.run("PRESSED and UNDONE", """
        bottle 7 0 -> 1
        grief 7 a=33;!4;a~p -> 3
        letter 3a -> 3
        days 1 -> 0
        keep -> 1
        pressed 7 7 -> 690      // DRAWS of 7: 8 5, 0 7, 0 1, ..; of p 2 5
        fear 7 a 0 -> 85
        fear 7 a 1 -> 0
        bottleIs 7 1 -> 0
        days 3 -> 0             // nine tries of 85
        fear 7 a 0 -> 0
        fear 7 p 0 -> 34
        undo -> 1
        bottleIs 7 4 -> 33
        fear 7 a 1 -> 3
        bottleIs 7 1 -> 4
        bottleIs 7 2 -> 996
        count 7 -> 20196        // three DRAWS
        days 2 -> 0
        fear 7 a 0 -> 0
        fear 7 p 0 -> 9
        pressed 7 65536 -> -1
        fear 7 p 0 -> 9
        """);
  }
}

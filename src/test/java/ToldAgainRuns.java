/** GRIEF, LETTER and THE LAW told again after DAYS: what they leave as it is, and what each later call answers. */
final class ToldAgainRuns {
  private ToldAgainRuns() {
  }

  static void tell(Play play) {
    griefAgain(play);
    kindAndSaltAgain(play);
    rhymesOfAll(play);
    letterAgain(play);
    lawAgain(play);
    lawOfWhatIsTold(play);
    lawOfPlaces(play);
    saltAndNerveAgain(play);
  }

  private static void griefAgain(Play play) {
    play.run("GRIEF again", """
        bottle 0 0 -> 1
        grief 0 a=30;a~b -> 2
        letter 8a -> 8
        days 1 -> 0             // 30 is more than NERVE 20
        fear 0 a 1 -> 8
        bottleIs 0 2 -> 991
        count 3 -> 8
        grief 0 a-10 -> 1
        fear 0 a 0 -> 20
        fear 0 a 1 -> 8         // GRIEF leaves TRIES and INK
        bottleIs 0 2 -> 991
        tried 1 0 -> 8
        tried 1 2 -> 1          // the first is the ninth try
        tried 1 200 -> 9        // a 0, its RHYME b 9
        training 0 a 0 -> 0
        training 0 a 1 -> -2
        grief 0 a=50 -> 1
        training 0 a 0 -> 1     // one try is missing
        training 0 a 1 -> 0
        days 1 -> 7             // the ninth try beads up, the others are of DREAD 0
        fear 0 a 0 -> 0
        fear 0 a 1 -> 7
        fear 0 b 0 -> 9
        count 3 -> 9
        count 4 -> 7
        bottleIs 0 2 -> 983
        grief 0 a~c -> 1
        letter 2a -> 2
        days 1 -> 2             // tries 8 and 9: USED, by the RHYME of now
        fear 0 c 0 -> 9
        fear 0 b 0 -> 9
        fear 0 a 1 -> 0
        grief 0 a~a -> 1
        letter 9a -> 9
        days 1 -> 9
        bottleIs 0 4 -> 18      // USED without a RHYME
        grief 0 a=99;a+9;b-99;z -> -1014
        bottleIs 0 4 -> 18      // by GRIEF with a FAULT nothing is done
        """);
  }

  private static void kindAndSaltAgain(Play play) {
    play.run("KIND and SALT again", """
        bottle 0 1 -> 1
        grief 0 a=15;b=12 -> 2
        fear 0 a 2 -> 30
        letter ab -> 2
        days 3 -> 0             // 30 and 24
        count 3 -> 6
        grief 0 !5 -> 1
        fear 0 a 2 -> 25
        fear 0 b 2 -> 19
        days 1 -> 1
        count 3 -> 7
        count 4 -> 1
        grief 0 #0 -> 1
        bottleIs 0 1 -> 5
        fear 0 a 2 -> 10
        fear 0 a 1 -> 4
        fear 0 b 1 -> 4
        days 1 -> 2
        grief 0 #2;!0 -> 2
        fear 0 a 2 -> 7
        fear 0 b 2 -> 6
        grief 0 a~c;#4;c=50 -> 3
        fear 0 a 2 -> 33        // the mean of 15 and 50, rounded up
        fear 0 c 2 -> 33
        fear 0 b 2 -> 12
        days 4 -> 4             // a beads up four times, the last is its ninth try; so is b's
        fear 0 a 0 -> 0
        fear 0 a 1 -> 0
        fear 0 c 0 -> 59
        fear 0 b 0 -> 0
        fear 0 a 2 -> 30        // the mean of 0 and 59
        bottleIs 0 3 -> 65530
        bottleIs 0 4 -> 59
        grief 0 #3 -> 1
        bottleIs 0 3 -> 65535
        days 1 -> 2
        bottleIs 0 2 -> 979
        count 3 -> 11
        count 4 -> 9
        check 0,255,255,255,255,255,255,255 -> -1
        grief 0 !7 -> 1
        check 0 -> 0
        check 7,255 -> -1
        """);
  }

  private static void rhymesOfAll(Play play) {
    play.run("RHYMES told with another BOTTLE", """
        bottle 0 0 -> 1
        bottle 1 4 -> 1
        grief 0 a=10 -> 1
        grief 1 a=40;b=3 -> 2
        fear 1 a 2 -> 40
        letter a -> 1
        law x(b=1) -> 1
        days 8 -> 8
        fear 0 a 1 -> 8
        grief 1 a~b -> 1
        fear 1 a 2 -> 22        // the mean of 40 and 3, rounded up
        fear 1 b 2 -> 22
        days 1 -> 1             // BOTTLE 0 is USED to a
        fear 0 b 0 -> 9
        fear 1 b 0 -> 3
        grief 0 b~c -> 1        // a has none then
        rhyme a -> 0
        rhyme b -> 2
        rhyme c -> 1
        fear 1 a 2 -> 40
        fear 1 b 2 -> 2
        borne 2 -> 1
        borne 0 -> 65534
        borne 1 -> 0
        guard 0 -> 1
        guard 1 -> 1
        next 3 0 -> 0
        next 3 1 -> 1
        whose a,0 -> 2
        bottle 0 4 -> 1         // told anew it finds the RHYMES as they are
        rhyme b -> 2
        grief 0 c=9 -> 1
        fear 0 b 2 -> 5
        """);
  }

  private static void letterAgain(Play play) {
    play.run("a LETTER again", """
        bottle 0 0 -> 1
        bottle 1 0 -> 1
        grief 0 a=30;b=5 -> 2
        grief 1 a=5;b=30 -> 2
        letter abab -> 4
        changes 100 -> 3
        changes 0 -> 1
        changes 3 -> 0
        changes 4 -> -4
        leastSalt 0 -> 10
        mixture 0 1 0 -> 3      // (30 i + 5 (8 - i)) / 8 and (5 i + 30 (8 - i)) / 8 at most 20: 3 to 5
        mixture 0 1 1 -> 3
        days 2 -> 8             // a by BOTTLE 1, b by BOTTLE 0
        fear 1 a 1 -> 4
        fear 0 b 1 -> 4
        letter 5a -> 5
        count 8 -> 5
        changes 100 -> 0
        changes 4 -> 1
        changes 5 -> -4
        leastSalt 0 -> 10
        leastSalt 1 -> 0
        mixture 0 1 0 -> 0
        mixture 0 1 1 -> 6
        days 1 -> 5             // the fifth is the ninth try of a
        fear 1 a 0 -> 0
        fear 1 a 1 -> 0
        fear 0 a 1 -> 0
        fear 0 b 1 -> 4
        letter 2(3(2ab)) -> 18
        letter ((( -> -5002
        letter 9( -> -1002
        letter 9(9a) -> -6000
        letter 9q -> -1001
        count 8 -> 18           // the one before stays
        days 1 -> 18
        fear 1 a 1 -> 3         // twelve tries of a
        fear 0 b 1 -> 1         // and six of b on four
        fear 0 b 0 -> 0
        fear 1 b 1 -> 0
        bottleIs 0 2 -> 989
        bottleIs 1 2 -> 978
        count 3 -> 0
        count 4 -> 31
        count 0 -> 4
        """);
  }

  private static void lawAgain(Play play) {
    play.run("THE LAW again", """
        bottle 0 0 -> 1
        bottle 1 0 -> 1
        grief 0 a=10 -> 1
        grief 1 a=12 -> 1
        letter 2a -> 2
        law f15(b=0);e3(b=1) -> 2
        days 1 -> 2
        bottleIs 1 2 -> 997
        law f15(b=0) -> 1
        count 5 -> 1
        days 1 -> 2             // FEAR 25 and 12
        fear 1 a 1 -> 4
        law f9(b=1);x(b=1&d=3) -> 2
        days 1 -> 2             // THE DAY is 2: FEAR 10 and 21
        fear 0 a 1 -> 2
        law e0(b=0);f9(b=1) -> 2
        days 1 -> 0             // BOTTLE 0 is not liked
        fear 1 a 1 -> 6
        count 3 -> 2
        law x(b=0 -> -1005
        count 5 -> 2            // the one before stays
        days 1 -> 0
        fear 1 a 1 -> 8
        law x(b=1|d<4) -> 1
        days 1 -> 2             // THE DAY is 5
        fear 0 a 1 -> 4
        law x(b<2) -> 1
        days 1 -> 0             // no BOTTLE is opened
        count 3 -> 6
        bottleIs 0 2 -> 995
        bottleIs 1 2 -> 991
        law f12(u<5);f12(b=1) -> 2
        count 7 -> 63139        // fourteen DRAWS till now; 4 3, 4 3, 4 3, 0 7 come
        days 1 -> 0             // FEAR 22 and 24
        fear 0 a 1 -> 6
        days 1 -> 0
        tried 1 0 -> 1
        days 1 -> 1             // the ninth try beads up, then FEAR is 12
        fear 0 a 0 -> 0
        fear 0 a 1 -> 1
        days 1 -> 2
        count 7 -> 41787
        count 0 -> 11
        """);
  }

  private static void lawOfWhatIsTold(Play play) {
    play.run("THE LAW by what is told of a BOTTLE", """
        bottle 2 1 -> 1
        grief 2 a=12 -> 1
        letter a -> 1
        law f50(n=0);x(q<20) -> 2
        days 1 -> 0
        grief 2 !10 -> 1        // q is 14: it is not opened
        days 2 -> 0
        fear 2 a 1 -> 1
        count 3 -> 3
        grief 2 #0;!0 -> 2
        tried 5 0 -> 0
        law x(q>20);f60(n=1&v=12&k=0&s=0) -> 2
        days 1 -> 0             // FEAR 72
        fear 2 a 1 -> 2
        days 1 -> 1
        bottle 2 0 -> 1
        days 1 -> 1             // n and v are 0
        grief 2 a=12 -> 1
        tried 1 0 -> 0          // n is 1 again
        tried 2 0 -> 1
        days 2 -> 1
        count 4 -> 3
        count 3 -> 5
        """);
  }

  private static void lawOfPlaces(Play play) {
    play.run("THE LAW by places, KIND and SALT", """
        bottle 0 0 -> 1
        bottle 1 2 -> 1
        letter 3(ab) -> 6
        law f1(b=9);f30(i=2|i=4);e5(k=2&s=0);e4(k=0) -> 4
        days 1 -> 4             // by BOTTLE 1
        bottleIs 1 2 -> 993
        grief 1 !1 -> 1
        days 1 -> 4             // by BOTTLE 0: the other one is liked by 1
        bottleIs 0 2 -> 993
        bottleIs 1 2 -> 993
        grief 0 #2 -> 1
        grief 1 #0;a+3;b+2;b-2 -> 4
        days 1 -> 4             // by BOTTLE 0
        bottleIs 0 2 -> 987
        ink 0 0 -> 1
        days 1 -> 4
        bottleIs 1 2 -> 987
        fear 1 a 2 -> 2
        ink 0 999 -> 1
        grief 0 b=4 -> 1
        law e2(b=1);e[i+1]*[3-k](b=0&!(i=5|i>5));x(i%[k-2]=0) -> 3
        days 1 -> 6             // of BOTTLE 0 the C of x is REFUSED; BOTTLE 1 is shut at 0, 2, 4 and liked more at 5
        bottleIs 0 2 -> 995
        bottleIs 1 2 -> 985
        fear 0 a 1 -> 0         // nine tries
        fear 0 b 1 -> 7
        fear 1 b 1 -> 8
        count 3 -> 8
        count 4 -> 22
        """);
  }

  private static void saltAndNerveAgain(Play play) {
    play.run("SALT and NERVE again", """
        bottle 0 1 -> 1
        grief 0 a=30;!5 -> 2
        letter 3a -> 3
        leastSalt 0 -> 35
        used 0 a 60 -> 3        // nine tries in three DAYS
        grief 0 !40 -> 1
        leastSalt 0 -> 0
        used 0 a 60 -> 0
        grief 0 !39 -> 1
        leastSalt 0 -> 1
        used 0 a 60 -> 3
        days 2 -> 0
        used 0 a 60 -> 1
        grief 0 #0;!0 -> 2
        leastSalt 0 -> 10
        used 0 a 1 -> 1
        nerve 30 -> 1
        leastSalt 0 -> 0
        used 0 a 1 -> 0
        tried 1 0 -> 3
        nerve 29 -> 1
        leastSalt 0 -> 1
        tried 1 0 -> 0
        days 1 -> 0
        used 0 a 1 -> 0
        nerve 0 -> 1
        bottleIs 0 3 -> 65535
        leastSalt 0 -> 0
        count 3 -> 9
        """);
  }
}

/** Section 3 TRIED at its edges: how far it is looked, what is just enough, of like ones the least. */
public final class TriedEdgesTest {
    private static final int NONE = BellRope.NONE;

    public static void main(String[] args) {
        strikesFromTo();
        whenFromTo();
        whenOrMore();
        hourFromTo();
        noonFromTo();
        noonAgain();
        setsOutInTheFirst();
        setsOutInTheLast();
        thereInHisQuarter();
        hisQuarterOfThese96();
        lateByOrMore();
        bestOfLikeOnes();
        aloneByEach();
        givenFromTo();
        givenJustN();
        mistakenOther();
        vespersFirstOfADay();
        vespersEachPint();
        vespersOrMore();
        vespersLeastSet();
        shipTwiceHeard();
        shipFromTo();
        widowsByNumber();
        oddsOfK();
        oddsOfQ();
        oddsCut();
        couldOfDryDay();
        couldAllOrNone();
        listenFromTo();
        listenOfLikeOnes();
        muffledNumbers();
        mostOfLikeOnes();
        roundOfMost();
        shareLeftOver();
        shareOfLikeOnes();
        judgeFirst();
        Checks.end();
    }

    /** A busy evening without RAIN, so that two days are not alike. */
    private static BellRope evening() {
        BellRope x = Checks.open(Probe.BUSY, 0, 1, 2);
        x.turn(1, 5);
        x.quarter(40);
        return x;
    }

    private static void strikesFromTo() {
        Checks.part("STRIKES: n (0 .. 191) on from the one that comes next");
        for (int n : new int[] {0, 1, 2, 55, 56, 57, 95, 96, 151, 152, 190, 191}) {
            BellRope x = evening();
            int tried = x.strikes(n);
            for (int left = n; left > 0; left -= Math.min(left, 96)) {
                x.quarter(Math.min(left, 96));
            }
            Checks.due("strikes(" + n + ")", tried, x.quarter(1));
        }
    }

    /** On day 2 alone one is HEARD: at QUARTER 200, 8 QUARTERS into it. */
    private static BellRope heardAt200() {
        return Checks.open("b0 0 3;d40 20 0;", 0);
    }

    private static void whenFromTo() {
        Checks.part("WHEN: behind how many QUARTERS (0 .. 191); NONE");
        BellRope x = heardAt200();
        x.quarter(8);
        Checks.due("when(1) of 192 on", x.when(1), NONE);
        x.quarter(1);
        Checks.due("when(1) of 191 on", x.when(1), 191);
        x.quarter(1);
        Checks.due("when(1) of 190 on", x.when(1), 190);
        x.quarter(96);
        x.quarter(93);
        Checks.due("when(1) of 1 on", x.when(1), 1);
        x.quarter(1);
        Checks.due("when(1) of 0 on", x.when(1), 0);
        x.quarter(1);
        Checks.due("when(1) behind it", x.when(1), 39);
    }

    private static void whenOrMore() {
        Checks.part("WHEN: k STROKES or more");
        BellRope x = Checks.open("b1 0 0;d1 20 0;d2 20 0;d2 20 0;d4 20 0;", 0, 1, 2, 3);
        x.quarter(1);
        // HEARD 2, 4, 2, 5
        Checks.row("when(1 .. 6), (16)", new int[] {x.when(1), x.when(2), x.when(3), x.when(4), x.when(5), x.when(6), x.when(16)},
            0, 0, 1, 1, 3, NONE, NONE);
    }

    private static void hourFromTo() {
        Checks.part("HOUR: behind n QUARTERS (0 .. 192)");
        for (int n : new int[] {0, 1, 2, 55, 56, 57, 96, 152, 153, 191, 192}) {
            BellRope x = evening();
            int tried = x.hour(n);
            for (int left = n; left > 0; left -= Math.min(left, 96)) {
                x.quarter(Math.min(left, 96));
            }
            Checks.due("hour(" + n + ")", tried, x.told(8));
        }
        BellRope last = heardAt200();
        last.quarter(8);
        Checks.due("hour(192): not yet", last.hour(192), 0);
        last.quarter(1);
        Checks.row("hour(191), (192)", new int[] {last.hour(191), last.hour(192)}, 0, 1);
    }

    private static void noonFromTo() {
        Checks.part("NOON: behind how many QUARTERS (1 .. 192); NONE");
        BellRope x = Checks.open("b0 9 0;d16 20 0;", 0);
        x.hang(1);
        // HEARD at 16, 32 .. 192: the twelfth behind 193
        Checks.row("noon(), when(1)", new int[] {x.noon(), x.when(1)}, NONE, 16);
        x.quarter(1);
        Checks.due("noon() behind 192", x.noon(), 192);
        x.quarter(1);
        Checks.due("noon() behind 191", x.noon(), 191);
        x.quarter(96);
        x.quarter(93);
        Checks.row("noon() behind 2", new int[] {x.told(8), x.noon()}, 11, 2);
        x.quarter(1);
        Checks.row("noon() behind 1", new int[] {x.told(8), x.noon()}, 11, 1);
        x.quarter(1);
        // at 193: HEARD at 208, 224 .. 384
        Checks.row("noon() at noon", new int[] {x.told(8), x.noon()}, 0, 192);
    }

    private static void noonAgain() {
        Checks.part("NOON: when the hour first becomes 0 again");
        BellRope x = Checks.open("b0 0 0;d1 20 0;d1 20 0;", 0);
        Checks.row("an hour of 0 that stays is none", new int[] {x.noon(), x.go(0), x.noon(), x.come(1), x.noon()}, 12, 0, NONE, 2, 12);
        x.quarter(11);
        x.go(1);
        Checks.due("an hour of 11 that stays", x.noon(), NONE);
    }

    /** On day 1 alone one is HEARD first: in its first QUARTER. */
    private static BellRope heardAt96(String goers) {
        BellRope x = Checks.open("b0 0 1;d40 20 0;" + goers, 0);
        x.turn(0, 24);
        return x;
    }

    private static void setsOutInTheFirst() {
        Checks.part("GOES BY k: in the first in which HEARD is k or more; never");
        BellRope x = Checks.open("b0 0 0;d1 20 0;d8 20 0;g0 0;g7 0;g8 0;g9 0;g15 7;", 0);
        x.turn(1, 7);
        x.come(1);
        // HEARD 1, but 2 at 1, 9, 17 ..
        Checks.row("late(1), (2), (3)", new int[] {x.late(1), x.late(2), x.late(3)}, 0, 1, 31);
        x.quarter(2);
        // 1 at once, 2 at 9
        Checks.row("late(1), (2), (3)", new int[] {x.late(1), x.late(2), x.late(3)}, 0, 2 + 4 + 16, 31);
    }

    private static void setsOutInTheLast() {
        Checks.part("GOES BY k: of the 96 QUARTERS that come");
        BellRope x = heardAt96("g0 0;g95 0;g0 1;");
        Checks.row("the 97th is too far", new int[] {x.when(1), x.late(1), x.best(1), x.alone(0)}, 96, 7, 3, 0);
        x.quarter(1);
        Checks.row("the 96th is not", new int[] {x.when(1), x.late(1), x.best(1), x.alone(0)}, 95, 6, 2, 2);
    }

    private static void thereInHisQuarter() {
        Checks.part("LATE, if he is there in a later one");
        BellRope x = Checks.open("b0 0 0;d40 20 0;g39 0;g40 0;g79 40;g80 40;g79 39;g41 0;", 0);
        x.turn(0, 0);
        x.quarter(1);
        // HEARD at 40: there at 40, 40, 80, 80, 79, 40
        Checks.due("late(1)", x.late(1), 1 + 4);
        BellRope now = Checks.open("b0 0 0;d1 20 0;g0 0;g0 1;g1 1;g40 40;g39 40;g95 40;", 0);
        Checks.due("late(1), HEARD at once", now.late(1), 2 + 16);
    }

    private static void hisQuarterOfThese96() {
        Checks.part("his QUARTER is that one of these 96 which is D of its day");
        BellRope x = Checks.open("b0 0 0;d40 20 0;g49 0;g49 40;g50 0;g50 1;g39 40;g38 40;", 0);
        x.quarter(50);
        // HEARD at 80, 30 on; 49 is 95 on, 50 is 0 on, 39 is 85 on, 38 is 84 on
        Checks.due("late(1) at 50", x.late(1), 4 + 8);
        x.quarter(30);
        // HEARD at once; 49 is 65 on, 50 is 66 on, 39 is 55 on, 38 is 54 on
        Checks.due("late(1) at 80", x.late(1), 0);
        x.quarter(16);
        // HEARD at 120, 24 on
        Checks.due("late(1) at 96", x.late(1), 2 + 16 + 32);
        x.quarter(95);
        // at 191, 95 of day 1; HEARD at 200, 9 on; 49 is 50 on, 50 is 51 on, 39 is 40 on, 38 is 39 on
        Checks.due("late(1) at 191", x.late(1), 16 + 32);
    }

    private static void lateByOrMore() {
        Checks.part("GOES BY k: k or more");
        BellRope x = Checks.open("b1 0 0;d40 20 0;d40 20 0;g0 0;", 0, 1);
        Checks.row("late(1 .. 4)", new int[] {x.late(1), x.late(2), x.late(3), x.late(4)}, 0, 0, 0, 1);
    }

    private static void bestOfLikeOnes() {
        Checks.part("BEST k: by which fewest GOERS are LATE; of like ones the least");
        BellRope x = Checks.open("b0 0 0;d1 20 0;d1 20 0;d8 20 0;g0 0;g4 0;g8 0;", 0, 1, 2);
        Checks.row("by 1, 2, 3 none", new int[] {x.best(0), x.best(1)}, 1, 0);
        x.quarter(1);
        // 2 at once, 3 at 8: 0 is 95 on
        Checks.row("by 1, 2 none", new int[] {x.best(0), x.best(1), x.late(2), x.late(3)}, 1, 0, 0, 2);
        x.quarter(4);
        // at 5: 4 is 95 on
        Checks.row("none", new int[] {x.best(0), x.best(1)}, 1, 0);
        BellRope never = Checks.open("b0 0 0;g0 0;g1 0;");
        Checks.row("all by all", new int[] {never.best(0), never.best(1)}, 1, 2);
        BellRope six = Checks.open("b0 0 0;" + "g0 0;".repeat(6));
        Checks.row("all six by all", new int[] {six.best(0), six.best(1)}, 1, 6);
        BellRope alone = Checks.open("b0 0 0;d1 20 0;", 0);
        Checks.row("no GOERS", new int[] {alone.best(0), alone.best(1)}, 1, 0);
    }

    private static void aloneByEach() {
        Checks.part("ALONE: k (a SET: bit k)");
        String seven = "b1 0 0;" + "d40 20 0;".repeat(7) + "g0 0;g0 1;g39 40;g40 40;";
        BellRope x = Checks.open(seven, 0, 1, 2, 3, 4, 5, 6);
        // 8 are HEARD: 1 .. 8 are bits 1 to 8
        Checks.row("alone of 8", new int[] {x.alone(0), x.alone(1), x.alone(2), x.alone(3)}, 510, 0, 0, 510);
        for (int d = 6; d >= 0; d--) {
            x.go(d);
            Checks.due("alone(0) of " + d, x.alone(0), d == 0 ? 0 : (1 << d + 2) - 2);
        }
    }

    private static void givenFromTo() {
        Checks.part("GIVEN: in the next n QUARTERS (1 .. 192)");
        BellRope x = Checks.open("b0 0 3;d40 20 0;d40 20 0;n5;n1;", 0);
        x.quarter(8);
        Checks.due("given(192): the next would be", x.given(192), 0);
        x.quarter(1);
        Checks.row("given(191), (192)", new int[] {x.given(191), x.given(192)}, 0, 2);
        BellRope y = Checks.open("b0 0 0;d1 20 0;d2 20 0;n2;n1;", 0, 1);
        Checks.row("given(1), (2)", new int[] {y.given(1), y.given(2)}, 1, 3);
        Checks.row("given(1) behind calls that looked further", new int[] {y.given(192), y.given(1), y.strikes(191), y.given(1)}, 3, 1, 0, 1);
    }

    private static void givenJustN() {
        Checks.part("GIVEN: just N STROKES");
        BellRope x = Checks.open("b1 0 0;d1 20 0;d1 20 0;d1 20 0;n3;n5;n4;n16;n1;", 0, 1, 2);
        Checks.due("given(20) of 4", x.given(20), 4);
        x.go(0);
        Checks.due("given(20) of 3", x.given(20), 1);
        x.go(1);
        x.go(2);
        Checks.due("given(192) of 0", x.given(192), 0);
    }

    private static void mistakenOther() {
        Checks.part("MISTAKEN: RUNG as many as some SIGNAL, but HEARD other than that");
        // K 1 and the ECHO: 2 RUNG are 2 HEARD, 1 RUNG is 0, 3 are 3
        BellRope x = Checks.open("b1 1 0;d1 20 0;d1 20 0;d1 20 0;n2;n1;n4;", 0);
        x.hang(3);
        Checks.row("1 RUNG, 0 HEARD", new int[] {x.quarter(1), x.mistaken()}, 0, 1);
        x.come(1);
        Checks.row("2 RUNG, 2 HEARD", new int[] {x.quarter(1), x.mistaken()}, 2, 1);
        x.come(2);
        Checks.row("3 RUNG, 3 HEARD: no SIGNAL", new int[] {x.quarter(1), x.mistaken()}, 3, 1);
        Checks.row("3 RUNG, 4 HEARD: 3 is no SIGNAL", new int[] {x.quarter(1), x.mistaken()}, 4, 1);
        x.go(0);
        Checks.row("2 RUNG, 3 HEARD", new int[] {x.quarter(1), x.mistaken()}, 3, 2);
        x.go(1);
        Checks.row("1 RUNG, 2 HEARD: another SIGNAL", new int[] {x.quarter(1), x.mistaken()}, 2, 3);
        x.go(2);
        Checks.row("0 RUNG", new int[] {x.quarter(1), x.mistaken()}, 0, 3);
    }

    private static void vespersFirstOfADay() {
        Checks.part("VESPERS: TREATED by 1, if the QUARTER that comes next is not the first of a day");
        BellRope x = Checks.open("b0 0 0;d1 2 0;d1 1 0;", 0);
        x.quarter(95);
        Checks.row("at 95: TREATED", new int[] {x.vespers(1, 0), x.vespers(1, 1), x.vespers(2, 0), x.vespers(2, 1)}, 1, 1, 2, 3);
        x.quarter(1);
        Checks.row("at 96: as it is", new int[] {x.vespers(1, 0), x.vespers(1, 1), x.vespers(2, 0), x.vespers(2, 1)}, 0, 0, 1, 2);
        x.quarter(1);
        Checks.row("at 97: 1 PINT of 2", new int[] {x.vespers(1, 0), x.vespers(1, 1), x.vespers(2, 0), x.vespers(2, 1)}, 0, 0, 1, 2);
        x.quarter(1);
        Checks.row("at 98: as many as he bears", new int[] {x.vespers(1, 0), x.vespers(1, 1), x.vespers(2, 0), x.vespers(2, 1)}, 1, 1, 2, 3);
    }

    private static void vespersEachPint() {
        Checks.part("VESPERS: each for 1 PINT brought IN, and each for 1 PINT TREATED");
        BellRope x = Checks.open("b0 0 0;d1 1 0;d1 9 0;d1 1 0;", 0, 1, 2);
        x.quarter(1);
        x.go(0);
        x.go(1);
        // 0: brought IN, TREATED; 1: brought IN; 2: TREATED
        Checks.row("vespers(1)", new int[] {x.vespers(1, 0), x.vespers(1, 1)}, 1, 2);
        Checks.row("vespers(2)", new int[] {x.vespers(2, 0), x.vespers(2, 1)}, 2, 6);
        Checks.row("vespers(3)", new int[] {x.vespers(3, 0), x.vespers(3, 1)}, 4, 7);
        Checks.row("vespers(4)", new int[] {x.vespers(4, 0), x.vespers(4, 1)}, NONE, NONE);
        x.come(1);
        Checks.row("vespers(1), 1 is IN and bears more", new int[] {x.vespers(1, 0), x.vespers(1, 1)}, 0, 0);
    }

    private static void vespersOrMore() {
        Checks.part("VESPERS: k STROKES (1 .. 16) or more");
        BellRope x = Checks.open("b1 0 0;" + "d1 20 0;".repeat(7), 0, 1);
        Checks.row("vespers(1 .. 4, 0)", new int[] {x.vespers(1, 0), x.vespers(2, 0), x.vespers(3, 0), x.vespers(4, 0)}, 0, 0, 0, 1);
        Checks.row("vespers(8)", new int[] {x.vespers(8, 0), x.vespers(8, 1)}, 5, 124);
        Checks.row("vespers(9), (16)", new int[] {x.vespers(9, 0), x.vespers(9, 1), x.vespers(16, 0), x.vespers(16, 1)}, NONE, NONE, NONE, NONE);
        BellRope never = Checks.open("b1 0 0;d2 20 0;", 0);
        never.quarter(1);
        Checks.row("whose time it is not", new int[] {never.vespers(1, 0), never.vespers(1, 1)}, NONE, NONE);
    }

    private static void vespersLeastSet() {
        Checks.part("VESPERS: for whom (of like ones the least SET)");
        BellRope x = Checks.open("b0 0 0;d2 20 0;d1 20 0;d1 20 0;d1 1 0;");
        x.quarter(1);
        Checks.row("vespers(1): 1", new int[] {x.vespers(1, 0), x.vespers(1, 1)}, 1, 2);
        Checks.row("vespers(2): 1, 2", new int[] {x.vespers(2, 0), x.vespers(2, 1)}, 2, 6);
        x.come(3);
        x.quarter(2);
        // 3 has as many as he bears: TREATED for one, or another is brought IN for one
        Checks.row("vespers(1)", new int[] {x.vespers(1, 0), x.vespers(1, 1)}, 1, 2);
        Checks.row("vespers(3)", new int[] {x.vespers(3, 0), x.vespers(3, 1)}, 3, 14);
        x.treat(3, 1);
        Checks.row("vespers(1), 3 rings", new int[] {x.vespers(1, 0), x.vespers(1, 1), x.vespers(2, 0), x.vespers(2, 1)}, 0, 0, 1, 2);
    }

    private static void shipTwiceHeard() {
        Checks.part("SHIP: if twice HEARD is its miles or more, or HEARD is 3 or more");
        BellRope one = Checks.open("b0 0 0;d1 20 0;", 0);
        Checks.row("HEARD 1", new int[] {one.ship(1), one.ship(2), one.ship(3)}, 1, 2, NONE);
        BellRope two = Checks.open("b0 0 0;d1 20 0;d1 20 0;", 0, 1);
        Checks.row("HEARD 2", new int[] {two.ship(3), two.ship(4), two.ship(5), two.ship(99)}, 3, 4, NONE, NONE);
        BellRope three = Checks.open("b0 0 0;d1 20 0;d1 20 0;d1 20 0;", 0, 1, 2);
        Checks.row("HEARD 3", new int[] {three.ship(6), three.ship(7), three.ship(20)}, 6, 7, 20);
        // HEARD 3, then 1 to 19; 2 at 40, 80, 120, 160; 1 from 96 to 115
        BellRope once = Checks.open("b0 0 0;d1 20 0;d40 20 0;d40 20 0;", 0, 1, 2);
        Checks.row("HEARD 3, then 1", new int[] {once.ship(3), once.ship(4), once.ship(5), once.ship(6)}, 3, 97, 98, NONE);
        BellRope none = Checks.open("b0 0 0;d1 20 0;");
        Checks.row("HEARD 0", new int[] {none.ship(1), none.ship(99)}, NONE, NONE);
    }

    private static void shipFromTo() {
        Checks.part("SHIP: behind how many QUARTERS (0 .. 192); NONE");
        BellRope x = heardAt200();
        x.quarter(8);
        Checks.due("ship(1) behind 193", x.ship(1), NONE);
        x.quarter(1);
        Checks.due("ship(1) behind 192", x.ship(1), 192);
        x.quarter(1);
        Checks.due("ship(1) behind 191", x.ship(1), 191);
        BellRope y = Checks.open("b0 0 0;d1 20 0;d1 20 0;d1 20 0;d1 20 0;d1 20 0;d1 20 0;", 0, 1, 2, 3, 4, 5);
        Checks.row("ship(20), (40), (41): 20 a day", new int[] {y.ship(20), y.ship(40), y.ship(41), y.ship(99)}, 20, 116, NONE, NONE);
    }

    private static void widowsByNumber() {
        Checks.part("WIDOWS pay c (0 .. 99) for each STROKE HEARD");
        BellRope x = Checks.open("b1 0 0;d1 20 0;d2 20 0;", 0, 1);
        x.quarter(4);
        // HEARD 3, 2, 3, 2
        Checks.row("widows(0), (1), (2), (99)", new int[] {x.widows(0), x.widows(1), x.widows(2), x.widows(99)}, 0, 10, 20, 990);
        x.turn(1, 1);
        x.quarter(2);
        // 3, 2, 3, 2, 2, 3: his TURN is at 5
        Checks.row("logged", new int[] {x.logged(1, 0), x.logged(0, 0)}, 2, 3);
        Checks.due("widows(1): nothing for one as the one ahead", x.widows(1), 10 + 3);
    }

    private static void oddsOfK() {
        Checks.part("ODDS: k STROKES (0 .. 16) or more");
        BellRope x = Checks.open("b0 0 0;" + "d1 1 50;".repeat(7));
        Checks.row("odds(0), (1) of nobody", new int[] {x.odds(0), x.odds(1), x.odds(16)}, 1000000, 0, 0);
        for (int d = 0; d < 7; d++) {
            x.come(d);
            Checks.row("odds(0), odds of more than are IN", new int[] {x.odds(0), x.odds(d + 2)}, 1000000, 0);
        }
        // 1000000 / 128 is 7812.5: cut
        Checks.row("odds(7), (8), (15), (16)", new int[] {x.odds(7), x.odds(8), x.odds(15), x.odds(16)}, 7812, 0, 0, 0);
    }

    private static void oddsOfQ() {
        Checks.part("ODDS: Q of a hundred, 0 .. 100");
        BellRope x = Checks.open("b0 0 0;d1 1 0;d1 1 100;d1 1 1;d1 1 99;", 0);
        Checks.row("Q 0", new int[] {x.odds(0), x.odds(1)}, 1000000, 0);
        x.come(1);
        Checks.row("Q 100", new int[] {x.odds(0), x.odds(1), x.odds(2)}, 1000000, 1000000, 0);
        x.come(2);
        Checks.row("Q 1", new int[] {x.odds(1), x.odds(2), x.odds(3)}, 1000000, 10000, 0);
        x.come(3);
        Checks.row("Q 99", new int[] {x.odds(1), x.odds(2), x.odds(3), x.odds(4)}, 1000000, 990000 + 100, 9900, 0);
    }

    private static void oddsCut() {
        Checks.part("ODDS: of what lies at each number Q of a hundred (cut) goes one up");
        BellRope x = Checks.open("b0 0 0;d1 20 33;d1 20 33;d1 20 33;d1 20 33;", 0, 1, 2, 3);
        // 670000, 330000; 448900, 442200, 108900; 300763, 444411 (442200 - 145926 + 148137), 218889 (108900 - 35937 + 145926), 35937
        // 33 of a hundred: 99251, 146655, 72233, 11859 (all cut)
        Checks.row("odds(1 .. 4)", new int[] {x.odds(1), x.odds(2), x.odds(3), x.odds(4)},
            1000000 - (300763 - 99251), 218889 + 35937 + 146655, 35937 + 72233, 11859);
        x.quarter(96);
        Checks.due("odds(0), whatever was cut", x.odds(0), 1000000);
    }

    private static void couldOfDryDay() {
        Checks.part("WAS: of a DRY day, whatever his PINTS, with the SEXTON's BLANKET and the ECHO as told");
        BellRope x = Checks.open("b1 1 127;d1 1 0;d2 1 0;s95 1;", 0);
        x.quarter(1);
        x.rain(1);
        x.hang(9);
        x.was(0, 3);
        Checks.row("both and the ECHO", new int[] {x.could(0), x.could(1)}, 1, 3);
        x.tear();
        x.was(95, 1);
        Checks.row("1 is the ECHO of nothing", new int[] {x.could(0), x.could(1)}, 0, NONE);
        x.tear();
        x.turn(1, 1);
        x.was(95, 2);
        Checks.row("both, the BLANKET, the ECHO", new int[] {x.could(0), x.could(1)}, 1, 3);
        x.tear();
        x.was(94, 2);
        Checks.row("0 alone, the ECHO", new int[] {x.could(0), x.could(1), x.could(2), x.could(3)}, 2, 1, 1, 0);
    }

    private static void couldAllOrNone() {
        Checks.part("COULD: how many; the least; SURE IN, SURE OUT; both 0 without any");
        BellRope x = Checks.open("b0 0 0;" + "d1 1 0;".repeat(7), 3);
        Checks.row("nothing is known", new int[] {x.could(0), x.could(1), x.could(2), x.could(3)}, 128, 0, 0, 0);
        x.was(0, 7);
        Checks.row("all", new int[] {x.could(0), x.could(1), x.could(2), x.could(3)}, 1, 127, 127, 0);
        x.was(1, 6);
        Checks.row("none", new int[] {x.could(0), x.could(1), x.could(2), x.could(3)}, 0, NONE, 0, 0);
        x.tear();
        x.was(0, 0);
        Checks.row("nobody", new int[] {x.could(0), x.could(1), x.could(2), x.could(3)}, 1, 0, 0, 127);
        x.tear();
        x.was(0, 16);
        Checks.row("16 are too many", new int[] {x.could(0), x.could(1), x.could(2), x.could(3)}, 0, NONE, 0, 0);
        x.tear();
        x.was(95, 6);
        Checks.row("one is missing", new int[] {x.could(0), x.could(1), x.could(2), x.could(3)}, 7, 63, 0, 0);
    }

    private static void listenFromTo() {
        Checks.part("LISTEN: the QUARTER (0 .. 95); NONE: none parts them");
        String muffled = "b0 1 0;d1 20 0;s0 24;s24 24;s48 24;";
        Checks.due("0", Checks.open("b0 0 0;d1 20 0;").listen(), 0);
        Checks.due("72", Checks.open(muffled).listen(), 72);
        Checks.due("95", Checks.open(muffled + "s72 23;").listen(), 95);
        Checks.due("none", Checks.open(muffled + "s72 24;").listen(), NONE);
        BellRope one = Checks.open("b0 0 0;d1 20 0;d1 20 0;");
        one.was(0, 2);
        Checks.due("one SET", one.listen(), NONE);
        one.was(0, 1);
        Checks.due("no SET", one.listen(), NONE);
        one.tear();
        one.was(0, 1);
        Checks.due("two SETS that are alike always", one.listen(), NONE);
        one.turn(0, 1);
        Checks.due("TURN of T 1", one.listen(), NONE);
        // at 0 one rings: 2, 2 of four SETS; at 1 both: 1, 2, 1 (WET, HUNG: 3, 1; but at 0 they are alike)
        BellRope other = Checks.open("b0 1 127;d1 1 0;d2 1 0;", 0, 1);
        other.turn(1, 1);
        Checks.due("of a DRY day", other.listen(), 0);
        other.rain(2);
        other.hang(96);
        Checks.due("whatever is HUNG", other.listen(), 0);
        other.quarter(1);
        other.go(1);
        Checks.due("whatever their PINTS, who is IN", other.listen(), 0);
    }

    private static void listenOfLikeOnes() {
        Checks.part("LISTEN: the greatest part that is alike is least; of like ones the least");
        // of 16 SETS two part 4, 8, 4; three 2, 6, 6, 2; four 1, 4, 6, 4, 1
        BellRope x = Checks.open("b0 0 0;d2 20 0;d3 20 0;d4 20 0;d5 20 0;");
        x.turn(2, 2);
        Checks.due("0, 1, 3 at 0", x.listen(), 0);
        x.turn(3, 1);
        // two at 0, 2, 4; 0, 1, 2 at 6; all four at 54
        Checks.due("0, 1, 2 at 6", x.listen(), 6);
        BellRope y = Checks.open("b0 0 0;d2 20 0;d40 20 0;");
        y.turn(0, 1);
        y.turn(1, 1);
        // 0 at 1, 3 .. 95; both at 39, 79: parts 1, 2, 1 as 2, 2
        Checks.due("2 of 4 by one, or by both", y.listen(), 1);
    }

    private static void muffledNumbers() {
        Checks.part("MUFFLED: numbers K (0 to 9, a SET)");
        String seven = "b0 5 0;" + "d1 1 0;".repeat(7) + "s7 1;";
        BellRope x = Checks.open(seven, 0, 1, 2, 3, 4, 5, 6);
        Checks.due("muffled() of nothing known", x.muffled(), 1023);
        // WAS is of a DRY day, whatever their PINTS and what is HUNG
        x.quarter(1);
        x.rain(1);
        x.hang(96);
        for (int heard = 7; heard >= 1; heard--) {
            x.tear();
            x.was(7, heard);
            Checks.due("muffled() of " + heard, x.muffled(), 1 << 7 - heard);
        }
        x.tear();
        x.was(7, 0);
        Checks.due("muffled() of 0: 7, 8, 9", x.muffled(), 128 + 256 + 512);
        x.was(6, 7);
        Checks.due("muffled(), without the BLANKET", x.muffled(), 128 + 256 + 512);
        x.was(8, 6);
        Checks.due("muffled() of none", x.muffled(), 0);
        BellRope nobody = Checks.open(seven);
        nobody.was(7, 0);
        Checks.due("muffled() of nobody", nobody.muffled(), 1023);
        nobody.was(7, 1);
        Checks.due("muffled() of nobody, 1", nobody.muffled(), 0);
    }

    private static void mostOfLikeOnes() {
        Checks.part("MOST: of like ones the least; NONE: none has any");
        BellRope x = Checks.open("b0 0 0;" + "d1 3 0;".repeat(7), 0, 1, 2, 3, 4, 5, 6);
        Checks.due("none", x.most(), NONE);
        x.quarter(1);
        for (int d = 0; d < 7; d++) {
            Checks.due("most() of like ones", x.most(), d);
            x.treat(d, 1);
        }
        Checks.due("none any more", x.most(), NONE);
        x.go(0);
        x.quarter(1);
        Checks.due("most() but 0", x.most(), 1);
        x.treat(1, 1);
        x.treat(2, 1);
        x.quarter(1);
        Checks.due("most() with more", x.most(), 3);
    }

    private static void roundOfMost() {
        Checks.part("ROUND: 1 without any; 999999 if it is more");
        int[][] rows = {{}, {1}, {40}, {12, 1}, {1, 12}, {2, 4, 8}, {8, 4, 2}, {16, 11, 13, 19, 23}, {27, 7, 11, 13, 37}, {4, 27, 13, 23, 31}, {37, 31, 29, 23, 19, 17, 13}};
        int[] due = {1, 1, 40, 12, 12, 8, 8, 999856, 999999, 999999, 999999};
        for (int i = 0; i < rows.length; i++) {
            StringBuilder text = new StringBuilder("b0 0 0;");
            for (int t : rows[i]) {
                text.append("d").append(t).append(" 1 0;");
            }
            BellRope x = Checks.open(text.toString());
            Checks.due("round() of none IN", x.round(), 1);
            for (int d = 0; d < rows[i].length; d++) {
                x.come(d);
            }
            Checks.due("round() of row " + i, x.round(), due[i]);
        }
        BellRope more = Checks.open("b0 0 0;d27 1 0;d7 1 0;d11 1 0;d13 1 0;d37 1 0;d9 1 0;d2 1 0;", 0, 1, 2, 3, 4, 5);
        Checks.row("999999, then more", new int[] {more.round(), more.come(6), more.round()}, 999999, 127, 999999);
    }

    private static void shareLeftOver() {
        Checks.part("SHARE: what is left over one more each to those who had most");
        BellRope x = Checks.open("b0 0 0;d1 1 0;d1 2 0;d1 3 0;d1 4 0;", 0, 1, 2, 3);
        Checks.row("0 of four", new int[] {x.share(0), x.share(1), x.share(2), x.share(3)}, 0, 0, 0, 0);
        x.quarter(4);
        Checks.row("10 of four", new int[] {x.share(0), x.share(1), x.share(2), x.share(3)}, 2, 2, 3, 3);
        x.treat(0, 1);
        Checks.row("9 of four", new int[] {x.share(0), x.share(1), x.share(2), x.share(3)}, 2, 2, 2, 3);
        x.treat(1, 1);
        Checks.row("8 of four", new int[] {x.share(0), x.share(1), x.share(2), x.share(3)}, 2, 2, 2, 2);
        x.treat(1, 1);
        Checks.row("7 of four", new int[] {x.share(0), x.share(1), x.share(2), x.share(3)}, 2, 1, 2, 2);
        x.treat(3, 4);
        Checks.row("3 of four", new int[] {x.share(0), x.share(1), x.share(2), x.share(3)}, 1, 1, 1, 0);
        x.treat(2, 2);
        Checks.row("1 of four", new int[] {x.share(0), x.share(1), x.share(2), x.share(3)}, 0, 0, 1, 0);
    }

    private static void shareOfLikeOnes() {
        Checks.part("SHARE: of like ones the lesser first; 0, if he is not IN");
        BellRope x = Checks.open("b0 0 0;d1 1 0;d1 1 0;d1 1 0;d1 3 0;", 0, 1, 2, 3);
        x.quarter(3);
        Checks.row("6 of four", new int[] {x.share(0), x.share(1), x.share(2), x.share(3)}, 2, 1, 1, 2);
        x.go(3);
        Checks.row("6 of three: what 3 had, too", new int[] {x.share(0), x.share(1), x.share(2), x.share(3)}, 2, 2, 2, 0);
        x.treat(3, 1);
        Checks.row("5 of three", new int[] {x.share(0), x.share(1), x.share(2), x.share(3)}, 2, 2, 1, 0);
        x.treat(3, 1);
        Checks.row("4 of three", new int[] {x.share(0), x.share(1), x.share(2), x.share(3)}, 2, 1, 1, 0);
        x.go(0);
        x.go(1);
        Checks.row("4 of one", new int[] {x.share(0), x.share(1), x.share(2), x.share(3)}, 0, 0, 4, 0);
        x.go(2);
        Checks.row("4 of none", new int[] {x.share(0), x.share(1), x.share(2), x.share(3)}, 0, 0, 0, 0);
    }

    private static void judgeFirst() {
        Checks.part("WRONG: the first that is otherwise now; NONE");
        BellRope x = Checks.open("b0 0 0;d1 3 0;d1 20 0;", 0, 1);
        Checks.due("no entry", x.judge(), NONE);
        x.quarter(5);
        int[][] entries = {{0, 3}, {1, 5}, {1, 4}, {0, 2}};
        for (int[] entry : entries) {
            x.write(entry[0], entry[1]);
        }
        Checks.due("the first of two", x.judge(), 2);
        x.treat(1, 1);
        Checks.due("another one is ahead", x.judge(), 1);
        x.undo();
        x.treat(0, 1);
        Checks.due("0 of the first", x.judge(), 0);
        x.tear();
        x.write(0, 2);
        x.write(1, 5);
        Checks.due("all is so", x.judge(), NONE);
        x.quarter(1);
        Checks.due("one more", x.judge(), 0);
    }
}

/** Promises 19 to 34: what is tried, and told of the evening. */
public final class TriedTest {
    private static final int NOT = BellRope.NOT;
    private static final int OUTSIDE = BellRope.OUTSIDE;
    private static final int UNKNOWN = BellRope.UNKNOWN;

    public static void main(String[] args) {
        promise19();
        promise20();
        promise21();
        promise22();
        promise23();
        promise24();
        promise25();
        promise26();
        promise27();
        promise28();
        promise28Sets();
        promise29();
        promise30();
        promise31();
        promise32();
        promise33();
        promise34();
        nothingChanges();
        Checks.end();
    }

    private static void promise19() {
        Checks.part("promise 19");
        BellRope x = Checks.open("b1 1 2;d1 2 0;d3 20 0;d40 20 0;s7 1;", 0, 1);
        x.turn(2, 1);
        x.come(2);
        int[] row = new int[8];
        for (int n = 0; n < 8; n++) {
            row[n] = x.strikes(n);
        }
        // RUNG 2, 1, 0, 1, 0, 0, 1, 0
        Checks.row("strikes(0 .. 7)", row, 3, 2, 0, 2, 0, 0, 2, 0);
        Checks.due("strikes(96), WET, 2 / 2 and the ECHO", x.strikes(96), 2);
        Checks.due("strikes(191)", x.strikes(191), 0);
        x.rain(2);
        Checks.due("strikes(96), DRY", x.strikes(96), 3);
        x.hang(1);
        Checks.row("HUNG", new int[] {x.strikes(0), x.strikes(1)}, 2, 2);
        x.quarter(1);
        Checks.due("strikes(95)", x.strikes(95), 3);
        Checks.due("strikes(-1)", x.strikes(-1), OUTSIDE);
        Checks.due("strikes(192)", x.strikes(192), OUTSIDE);
        Checks.due("strikes(192) without an inn", new BellRope().strikes(192), OUTSIDE);
        Checks.due("strikes(0) without an inn", new BellRope().strikes(0), NOT);
        BellRope last = Checks.open("b0 0 0;d40 20 0;", 0);
        last.turn(0, 9);
        Checks.due("strikes(191), the last", last.strikes(191), 1);
        Checks.due("strikes(190)", last.strikes(190), 0);
    }

    private static void promise20() {
        Checks.part("promise 20");
        BellRope x = Checks.open("b0 0 0;d40 20 0;d40 20 0;d40 1 0;d40 20 0;", 0, 1, 2);
        Checks.due("when(3)", x.when(3), 0);
        x.turn(0, 37);
        x.turn(1, 37);
        x.turn(2, 9);
        Checks.row("when(1 .. 3)", new int[] {x.when(1), x.when(2), x.when(3)}, 3, 3, -1);
        x.go(0);
        x.go(1);
        // (n + 9) is 40 first: at 31; he bears 1 a day, so next at 111 of day 1
        Checks.due("when(1)", x.when(1), 31);
        x.quarter(32);
        Checks.due("when(1) of the next day", x.when(1), 111 - 32);
        Checks.due("when(16)", x.when(16), -1);
        Checks.due("when(0)", x.when(0), OUTSIDE);
        Checks.due("when(17)", x.when(17), OUTSIDE);
        Checks.due("when(0) without an inn", new BellRope().when(0), OUTSIDE);
        Checks.due("when(1) without an inn", new BellRope().when(1), NOT);
        // WET days 0 and 1 take both halves, so one is HEARD on day 2 alone: QUARTER 199
        BellRope far = Checks.open("b0 0 3;d40 20 0;", 0);
        far.turn(0, 1);
        Checks.due("when(1), beyond 191", far.when(1), -1);
        far.quarter(7);
        Checks.due("when(1), beyond 191 yet", far.when(1), -1);
        far.quarter(1);
        Checks.due("when(1), at 191", far.when(1), 191);
    }

    private static void promise21() {
        Checks.part("promise 21");
        BellRope x = Checks.open("b0 0 2;d2 20 0;", 0);
        Checks.row("hour(0 .. 4)", new int[] {x.hour(0), x.hour(1), x.hour(2), x.hour(3), x.hour(4)}, 0, 1, 1, 2, 2);
        Checks.row("hour(22), (23), (24)", new int[] {x.hour(22), x.hour(23), x.hour(24)}, 11, 0, 0);
        Checks.row("hour(96), (192): day 1 is WET", new int[] {x.hour(96), x.hour(192)}, 8, 8);
        x.quarter(5);
        Checks.row("hour(0), (2)", new int[] {x.hour(0), x.hour(2)}, 3, 4);
        Checks.due("hour(-1)", x.hour(-1), OUTSIDE);
        Checks.due("hour(193)", x.hour(193), OUTSIDE);
        Checks.due("hour(193) without an inn", new BellRope().hour(193), OUTSIDE);
        Checks.due("hour(0) without an inn", new BellRope().hour(0), NOT);
        BellRope all = Checks.open("b0 0 0;d40 20 0;", 0);
        all.turn(0, 9);
        // (k + 9) is told by 40 at 31, 71, 111, 151, 191
        Checks.row("hour(191), (192)", new int[] {all.hour(191), all.hour(192)}, 4, 5);
    }

    private static void promise22() {
        Checks.part("promise 22");
        BellRope x = Checks.open("b0 0 0;d1 20 0;", 0);
        Checks.due("noon()", x.noon(), 12);
        x.quarter(5);
        Checks.due("noon()", x.noon(), 7);
        x.quarter(7);
        Checks.due("noon() at 0", x.noon(), 88);
        Checks.due("told(8)", x.told(8), 0);
        x.go(0);
        Checks.due("noon(), nobody IN", x.noon(), -1);
        Checks.due("noon() without an inn", new BellRope().noon(), NOT);
        // 6 a day, the twelfth in QUARTER 191: TURN 1 behind the first
        BellRope late = Checks.open("b0 0 0;d16 20 0;", 0);
        late.turn(0, 1);
        Checks.due("noon() behind 192", late.noon(), 192);
        late.turn(0, 0);
        Checks.due("noon() behind 177", late.noon(), 177);
        BellRope none = Checks.open("b0 0 0;d17 20 0;", 0);
        none.turn(0, 16);
        // 1, 18, 35 .. 188: twelve
        Checks.due("noon() behind 189", none.noon(), 189);
        none.turn(0, 9);
        // 8, 25 .. 178: eleven
        Checks.due("noon() of eleven", none.noon(), -1);
    }

    private static void promise23() {
        Checks.part("promise 23");
        BellRope x = Checks.open("b0 0 0;d40 1 0;d40 1 0;g15 5;g14 5;g9 0;g95 40;g10 0;", 0);
        x.turn(0, 30);
        x.turn(1, 30);
        // one is HEARD in QUARTER 10 first: there at 15, 15, 10, 50, 10
        Checks.due("late(1)", x.late(1), 2 + 4);
        Checks.due("late(2), never", x.late(2), 31);
        x.come(1);
        Checks.due("late(2)", x.late(2), 6);
        x.quarter(11);
        // both bear 1: next at 130, beyond the 96 QUARTERS
        Checks.due("late(1), not HEARD in 96", x.late(1), 31);
        x.treat(0, 1);
        // HEARD at 50 of day 0: 39 on; there 44, 44, 39, 79, 39; due at 4, 3, 94, 84, 95
        Checks.due("late(1), HEARD at 50", x.late(1), 3);
        Checks.due("late(0)", x.late(0), OUTSIDE);
        Checks.due("late(17)", x.late(17), OUTSIDE);
        Checks.due("late(16)", x.late(16), 31);
        Checks.due("late(0) without an inn", new BellRope().late(0), OUTSIDE);
        Checks.due("late(1) without an inn", new BellRope().late(1), NOT);
        BellRope six = Checks.open("b0 0 0;d1 20 0;g0 0;g0 1;g95 40;g40 40;g39 40;g1 1;", 0);
        Checks.due("late(1) of six", six.late(1), 2 + 16);
        Checks.due("late(1) without GOERS", Checks.open("b0 0 0;d1 20 0;", 0).late(1), 0);
    }

    private static void promise24() {
        Checks.part("promise 24");
        // HEARD 2 in QUARTER 0 (both), 1 in 1: all set out at once by 1 and 2
        BellRope x = Checks.open("b0 0 0;d1 20 0;d2 20 0;g0 0;g1 1;g2 9;", 0, 1);
        Checks.row("best(0), (1)", new int[] {x.best(0), x.best(1)}, 1, 1);
        x.quarter(1);
        // from 1 on: HEARD 1, 2, 1 ..; due 95, 0, 1; by 1: there at 0, 1, 9; by 2: 1, 2, 10
        Checks.row("best(0), (1)", new int[] {x.best(0), x.best(1)}, 1, 2);
        Checks.row("best of nobody", new int[] {Checks.open("b0 0 0;d1 20 0;g1 1;").best(0), Checks.open("b0 0 0;d1 20 0;g1 1;g2 2;").best(1)}, 1, 2);
        BellRope six = Checks.open("b0 0 0;" + "g1 1;".repeat(6));
        Checks.row("best of six who never set out", new int[] {six.best(0), six.best(1)}, 1, 6);
        Checks.row("best without GOERS", new int[] {Checks.open("b0 0 0;").best(0), Checks.open("b0 0 0;").best(1)}, 1, 0);
        Checks.due("best(2)", x.best(2), OUTSIDE);
        Checks.due("best(-1)", x.best(-1), OUTSIDE);
        Checks.due("best(2) without an inn", new BellRope().best(2), OUTSIDE);
        Checks.due("best(0) without an inn", new BellRope().best(0), NOT);
    }

    private static void promise25() {
        Checks.part("promise 25");
        // HEARD 1 at 0, 3 at 4, 8 at 8 (with the ECHO)
        BellRope x = Checks.open("b1 0 0;d4 20 0;d8 20 0;g3 3;g7 3;g0 40;", 0);
        x.come(1);
        x.turn(1, 4);
        // HEARD 2 at 0, 3 at 4
        Checks.row("alone(0), (1), (2)", new int[] {x.alone(0), x.alone(1), x.alone(2)}, 2 + 4, 2 + 4 + 8, 0);
        Checks.due("alone(3)", x.alone(3), UNKNOWN);
        Checks.due("alone(-1)", x.alone(-1), UNKNOWN);
        Checks.due("alone(0) without an inn", new BellRope().alone(0), UNKNOWN);
        BellRope full = Checks.open("b1 0 0;" + "d1 20 0;".repeat(7) + "g0 0;", 0, 1, 2, 3, 4, 5, 6);
        Checks.due("alone(0) by 8", full.alone(0), 510);
    }

    private static void promise26() {
        Checks.part("promise 26");
        BellRope x = Checks.open("b0 0 0;d1 3 0;d2 20 0;d40 20 0;n3;n1;n2;n4;", 0, 1, 2);
        x.turn(2, 39);
        // HEARD 2, 2, 2, 0, 1, 0, 1
        Checks.row("given(1), (4), (5), (192)", new int[] {x.given(1), x.given(4), x.given(5), x.given(192)}, 4, 4, 6, 6);
        x.turn(2, 0);
        // HEARD 3, 1, 2, 0, 1
        Checks.row("given(1), (2), (5)", new int[] {x.given(1), x.given(2), x.given(5)}, 1, 3, 7);
        Checks.due("given(0)", x.given(0), OUTSIDE);
        Checks.due("given(193)", x.given(193), OUTSIDE);
        Checks.due("given(0) without an inn", new BellRope().given(0), OUTSIDE);
        Checks.due("given(1) without an inn", new BellRope().given(1), NOT);
        BellRope last = Checks.open("b0 0 0;d40 20 0;d40 20 0;n1;n2;", 0, 1);
        last.turn(0, 9);
        last.turn(1, 9);
        last.quarter(32);
        last.turn(1, 8);
        last.treat(1, 20);
        Checks.due("given(192)", last.given(192), 1);
    }

    private static void promise27() {
        Checks.part("promise 27");
        BellRope x = Checks.open("b1 1 0;d1 20 0;d2 20 0;n1;n9;s1 1;", 0, 1);
        Checks.due("mistaken() of none", x.mistaken(), 0);
        // RUNG 2, 1, 2, 1: HEARD 3, 0, 3, 2: signal 1 is RUNG twice
        x.quarter(4);
        Checks.due("mistaken()", x.mistaken(), 2);
        BellRope same = Checks.open("b1 1 0;d1 20 0;d2 20 0;n2;n1;s0 4;", 0, 1);
        // HEARD 2, 0, 2, 0: the BLANKET takes what the ECHO gives
        same.quarter(4);
        Checks.due("mistaken(), HEARD as RUNG", same.mistaken(), 2);
        same.quarter(40);
        // the LOG has 4 .. 43: d0 rings to 19, d1 to 38: 2 RUNG (HEARD 3) at 4, 6 .. 18; 1 RUNG (2) at 5 .. 19, 20 .. 38
        Checks.due("mistaken() of the latest 40", same.mistaken(), 8 + 8 + 10);
        Checks.due("mistaken() without SIGNALS", Checks.open("b1 1 0;").mistaken(), 0);
        Checks.due("mistaken() without an inn", new BellRope().mistaken(), 0);
        BellRope wet = Checks.open("b0 0 1;d1 20 0;n1;", 0);
        wet.quarter(3);
        Checks.due("mistaken() of the WET", wet.mistaken(), 3);
    }

    private static void promise28() {
        Checks.part("promise 28");
        BellRope x = Checks.open("b0 0 0;d1 1 0;d1 20 0;d2 20 0;d1 2 0;", 0);
        Checks.row("vespers(1)", new int[] {x.vespers(1, 0), x.vespers(1, 1)}, 0, 0);
        Checks.row("vespers(2), the least SET", new int[] {x.vespers(2, 0), x.vespers(2, 1)}, 1, 2);
        Checks.row("vespers(3)", new int[] {x.vespers(3, 0), x.vespers(3, 1)}, 2, 6);
        Checks.row("vespers(4)", new int[] {x.vespers(4, 0), x.vespers(4, 1)}, 3, 14);
        Checks.row("vespers(5)", new int[] {x.vespers(5, 0), x.vespers(5, 1)}, -1, -1);
        x.quarter(1);
        // 0 is IN and full; 2 is not due
        Checks.row("vespers(1) treats 0", new int[] {x.vespers(1, 0), x.vespers(1, 1)}, 1, 1);
        Checks.row("vespers(3)", new int[] {x.vespers(3, 0), x.vespers(3, 1)}, 3, 11);
        Checks.row("vespers(4)", new int[] {x.vespers(4, 0), x.vespers(4, 1)}, -1, -1);
        x.go(0);
        // 0 is out and full: 2 PINTS
        Checks.row("vespers(1)", new int[] {x.vespers(1, 0), x.vespers(1, 1)}, 1, 2);
        Checks.row("vespers(3)", new int[] {x.vespers(3, 0), x.vespers(3, 1)}, 4, 11);
        Checks.row("OUTSIDE", new int[] {x.vespers(0, 0), x.vespers(17, 0), x.vespers(1, 2), x.vespers(1, -1)}, OUTSIDE, OUTSIDE, OUTSIDE, OUTSIDE);
        Checks.due("vespers(16, 0)", x.vespers(16, 0), -1);
        Checks.due("vespers(0, 0) without an inn", new BellRope().vespers(0, 0), OUTSIDE);
        Checks.due("vespers(1, 0) without an inn", new BellRope().vespers(1, 0), NOT);
        Checks.due("vespers(1, 0) without DRINKERS", Checks.open("b0 0 0;").vespers(1, 0), -1);
    }

    private static void promise28Sets() {
        BellRope x = Checks.open("b1 2 0;d1 1 0;d1 20 0;d1 20 0;d1 20 0;d1 20 0;s95 1;", 0);
        x.quarter(95);
        // the BLANKET: 3 RUNG are 1 and the ECHO; 0 has his day's pint: three others, or two and 0, are 3 PINTS
        Checks.row("vespers(2) under the BLANKET", new int[] {x.vespers(2, 0), x.vespers(2, 1)}, 3, 7);
        x.quarter(1);
        Checks.row("vespers(2), the first of a day", new int[] {x.vespers(2, 0), x.vespers(2, 1)}, 0, 0);
        Checks.row("vespers(3), the first of a day", new int[] {x.vespers(3, 0), x.vespers(3, 1)}, 1, 2);
        x.rain(1);
        // WET: 4 RUNG are 2 and the ECHO
        Checks.row("vespers(3), WET", new int[] {x.vespers(3, 0), x.vespers(3, 1)}, 3, 14);
        x.hang(1);
        Checks.row("vespers(1), WET, HUNG", new int[] {x.vespers(1, 0), x.vespers(1, 1)}, -1, -1);
    }

    private static void promise29() {
        Checks.part("promise 29");
        BellRope one = Checks.open("b0 0 0;d1 20 0;", 0);
        Checks.row("ship(1), (2), (3)", new int[] {one.ship(1), one.ship(2), one.ship(3)}, 1, 2, -1);
        BellRope two = Checks.open("b0 0 0;d2 20 0;d2 20 0;", 0, 1);
        Checks.row("ship(4), (5)", new int[] {two.ship(4), two.ship(5)}, 7, -1);
        BellRope three = Checks.open("b0 0 0;d1 20 0;d1 20 0;d1 20 0;", 0, 1, 2);
        Checks.row("ship(20), (21), (40), (41), (99)",
            new int[] {three.ship(20), three.ship(21), three.ship(40), three.ship(41), three.ship(99)}, 20, 97, 116, -1, -1);
        three.go(0);
        Checks.row("ship(4), (5)", new int[] {three.ship(4), three.ship(5)}, 4, -1);
        BellRope last = Checks.open("b0 0 0;d40 20 0;d16 20 0;", 1);
        last.turn(1, 1);
        Checks.row("ship(1), (2)", new int[] {last.ship(1), last.ship(2)}, 16, 32);
        last.go(1);
        last.turn(0, 9);
        last.come(0);
        Checks.row("ship(1), (2)", new int[] {last.ship(1), last.ship(2)}, 32, 72);
        Checks.due("ship(0)", one.ship(0), OUTSIDE);
        Checks.due("ship(100)", one.ship(100), OUTSIDE);
        Checks.due("ship(0) without an inn", new BellRope().ship(0), OUTSIDE);
        Checks.due("ship(1) without an inn", new BellRope().ship(1), NOT);
        // nothing till day 2, whose first is HEARD behind 192 from QUARTER 1 on
        BellRope edge = Checks.open("b0 0 3;d40 20 0;", 0);
        edge.turn(0, 8);
        Checks.due("ship(1) behind 193", edge.ship(1), -1);
        edge.quarter(1);
        Checks.due("ship(1) behind 192", edge.ship(1), 192);
    }

    private static void promise30() {
        Checks.part("promise 30");
        BellRope x = Checks.open("b0 0 0;d1 20 0;d2 20 0;d4 20 0;", 0, 1, 2);
        Checks.due("widows(5) of none", x.widows(5), 0);
        // HEARD 3, 1, 2, 1, 3
        x.quarter(5);
        Checks.row("widows(0), (1), (99)", new int[] {x.widows(0), x.widows(1), x.widows(99)}, 0, 10, 990);
        x.go(1);
        x.go(2);
        // 1, 1, 1: paid once
        x.quarter(3);
        Checks.due("widows(1)", x.widows(1), 11);
        x.go(0);
        x.quarter(33);
        // the LOG has 1 .. 40: 1, 2, 1, 3, 1, 1, 1, 0 ..
        Checks.due("widows(1) of the latest 40", x.widows(1), 8);
        x.quarter(4);
        // 5 .. 44: 1, 1, 1, 0 ..: the first in THE LOG has none ahead of it
        Checks.due("widows(1)", x.widows(1), 1);
        x.quarter(1);
        Checks.due("widows(1), as many ahead are gone", x.widows(1), 1);
        Checks.due("widows(-1)", x.widows(-1), OUTSIDE);
        Checks.due("widows(100)", x.widows(100), OUTSIDE);
        Checks.due("widows(100) without an inn", new BellRope().widows(100), OUTSIDE);
        Checks.due("widows(1) without an inn", new BellRope().widows(1), 0);
        BellRope zero = Checks.open("b0 0 0;d2 20 0;", 0);
        zero.quarter(6);
        Checks.due("widows(7), none between", zero.widows(7), 21);
        BellRope full = Checks.open("b0 0 0;d4 20 0;", 0);
        full.quarter(45);
        // THE LOG has 5 .. 44: 8, 12 .. 44
        Checks.due("widows(1) of a full log", full.widows(1), 10);
    }

    private static void promise31() {
        Checks.part("promise 31");
        BellRope x = Checks.open("b1 9 1;d1 1 50;d1 20 33;d1 20 100;d2 20 0;d3 20 7;s0 9;", 0);
        Checks.row("odds(0), (1), (2) of one", new int[] {x.odds(0), x.odds(1), x.odds(2)}, 1000000, 500000, 0);
        x.come(1);
        // 335000, 500000, 165000
        Checks.row("odds(1), (2), (3) of two", new int[] {x.odds(1), x.odds(2), x.odds(3)}, 665000, 165000, 0);
        x.come(2);
        Checks.row("odds(1), (2), (3), (4)", new int[] {x.odds(1), x.odds(2), x.odds(3), x.odds(4)}, 1000000, 665000, 165000, 0);
        x.come(3);
        Checks.row("odds(3), (4)", new int[] {x.odds(3), x.odds(4)}, 165000, 0);
        x.come(4);
        Checks.row("odds(2), (3), (4)", new int[] {x.odds(2), x.odds(3), x.odds(4)}, 665000 + 335000 * 7 / 100, 165000 + 35000, 165000 * 7 / 100);
        x.quarter(1);
        // 0 is full; 3 and 4 are not due
        Checks.row("odds(1), (2), (3)", new int[] {x.odds(1), x.odds(2), x.odds(3)}, 1000000, 330000, 0);
        Checks.due("odds(16)", x.odds(16), 0);
        Checks.due("odds(17)", x.odds(17), OUTSIDE);
        Checks.due("odds(-1)", x.odds(-1), OUTSIDE);
        Checks.due("odds(17) without an inn", new BellRope().odds(17), OUTSIDE);
        Checks.due("odds(0) without an inn", new BellRope().odds(0), NOT);
        BellRope seven = Checks.open("b0 0 0;" + "d1 1 100;".repeat(6) + "d1 1 40;", 0, 1, 2, 3, 4, 5, 6);
        Checks.row("odds(6), (7), (8) of seven", new int[] {seven.odds(6), seven.odds(7), seven.odds(8)}, 1000000, 400000, 0);
        BellRope cut = Checks.open("b0 0 0;d1 1 1;d1 1 1;d1 1 1;d1 1 1;", 0, 1, 2, 3);
        // at 1, 2, 3, 4: 10000; 9900 + 9900 = 19800, 100; 29403, 297, 1; 38811 (cut), 588 (cut), 3 (cut), 0
        Checks.row("odds(2), (3), (4)", new int[] {cut.odds(2), cut.odds(3), cut.odds(4)}, 297 - 2 + 294 + 1 + 2, 3, 0);
    }

    private static void promise32() {
        Checks.part("promise 32");
        BellRope x = Checks.open("b0 0 0;d1 3 0;d1 20 0;d1 20 0;d1 20 0;", 1, 2);
        Checks.due("most() of none", x.most(), -1);
        x.quarter(2);
        Checks.due("most(), the least of like ones", x.most(), 1);
        x.treat(1, 1);
        Checks.due("most()", x.most(), 2);
        x.go(2);
        Checks.due("most(), who is not IN any more", x.most(), 2);
        x.go(1);
        x.treat(1, 9);
        x.treat(2, 9);
        Checks.due("most(), none has any", x.most(), -1);
        x.come(0);
        x.come(3);
        x.quarter(1);
        Checks.due("most(), one pint each", x.most(), 0);
        Checks.due("most() without an inn", new BellRope().most(), -1);
    }

    private static void promise33() {
        Checks.part("promise 33");
        BellRope x = Checks.open("b0 0 0;d12 20 0;d18 20 0;d40 20 0;d37 20 0;d31 20 0;d29 20 0;d1 20 0;");
        Checks.due("round() without any", x.round(), 1);
        Checks.due("round() without an inn", new BellRope().round(), 1);
        x.come(6);
        Checks.due("round() of 1", x.round(), 1);
        x.come(0);
        x.come(1);
        Checks.due("round() of 12, 18", x.round(), 36);
        x.come(2);
        Checks.due("round() of 12, 18, 40", x.round(), 360);
        x.come(3);
        x.come(4);
        Checks.due("round() and 37, 31", x.round(), 412920);
        x.come(5);
        Checks.due("round(), more than it tells", x.round(), 999999);
        x.go(0);
        x.go(1);
        x.go(2);
        Checks.due("round() of 37, 31, 29, 1", x.round(), 37 * 31 * 29);
        // 27 * 37 * 13 * 11 * 7 = 999999: it is just that
        BellRope just = Checks.open("b0 0 0;d27 1 0;d37 1 0;d13 1 0;d11 1 0;d7 1 0;d40 1 0;", 0, 1, 2, 3, 4);
        Checks.due("round() of 999999", just.round(), 999999);
        just.come(5);
        Checks.due("round() of more", just.round(), 999999);
    }

    private static void promise34() {
        Checks.part("promise 34");
        BellRope x = Checks.open("b0 0 0;d1 2 0;d1 5 0;d1 5 0;d1 4 0;", 0, 1, 2, 3);
        x.quarter(5);
        // 2, 5, 5, 4 are 16
        Checks.row("share", new int[] {x.share(0), x.share(1), x.share(2), x.share(3)}, 4, 4, 4, 4);
        x.treat(3, 1);
        Checks.row("share of 15", new int[] {x.share(0), x.share(1), x.share(2), x.share(3)}, 3, 4, 4, 4);
        x.treat(3, 1);
        Checks.row("share of 14", new int[] {x.share(0), x.share(1), x.share(2), x.share(3)}, 3, 4, 4, 3);
        x.treat(3, 1);
        Checks.row("share of 13", new int[] {x.share(0), x.share(1), x.share(2), x.share(3)}, 3, 4, 3, 3);
        x.go(1);
        // 13 of three: one more for 2; of what 1 had, too
        Checks.row("share of 13 of three", new int[] {x.share(0), x.share(1), x.share(2), x.share(3)}, 4, 0, 5, 4);
        x.go(0);
        x.go(2);
        x.go(3);
        Checks.due("share(0), nobody IN", x.share(0), 0);
        BellRope first = Checks.open("b0 0 0;d1 5 0;d1 2 0;", 0, 1);
        first.quarter(5);
        Checks.row("share of 7, one more for 0", new int[] {first.share(0), first.share(1)}, 4, 3);
        first.go(1);
        Checks.due("share of 7 of one", first.share(0), 7);
        Checks.due("share(4)", x.share(4), UNKNOWN);
        Checks.due("share(-1)", x.share(-1), UNKNOWN);
        Checks.due("share(0) without an inn", new BellRope().share(0), UNKNOWN);
    }

    /** TRIED: nothing changes by it. */
    private static void nothingChanges() {
        Checks.part("tried");
        BellRope x = Checks.open("b1 1 2;d1 5 50;d3 5 50;g9 3;n2;s3 3;", 0, 1);
        x.quarter(2);
        x.hang(4);
        int[] ahead = state(x);
        x.strikes(191);
        x.when(16);
        x.hour(192);
        x.noon();
        x.late(1);
        x.best(0);
        x.alone(0);
        x.given(192);
        x.mistaken();
        x.vespers(3, 1);
        x.ship(99);
        x.widows(3);
        x.odds(1);
        x.most();
        x.round();
        x.share(1);
        x.could(0);
        x.listen();
        x.muffled();
        x.judge();
        Checks.row("all that is told", state(x), ahead);
    }

    private static int[] state(BellRope x) {
        int[] row = new int[17 + 14 + 4];
        for (int i = 0; i < 17; i++) {
            row[i] = x.told(i);
        }
        for (int i = 0; i < 14; i++) {
            row[17 + i] = x.drinker(i / 7, i % 7);
        }
        for (int i = 0; i < 4; i++) {
            row[31 + i] = x.logged(i / 2, i % 2);
        }
        return row;
    }
}

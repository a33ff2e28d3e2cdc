/** Promises 10 to 18: what is done. */
public final class DoneTest {
    public static void main(String[] args) {
        promise10Strokes();
        promise10Blanket();
        promise10Day();
        promise10Refused();
        promise11and12();
        promise13();
        promise14();
        promise15();
        promise16();
        promise17();
        promise18();
        promise18Kinds();
        Checks.end();
    }

    private static void promise10Strokes() {
        Checks.part("promise 10");
        Checks.row("DRY", Checks.heard(Checks.open("b0 9 0;d1 20 0;d2 20 0;d3 20 0;", 0, 1, 2), 7), 3, 1, 2, 2, 2, 1, 3);
        Checks.row("with the ECHO", Checks.heard(Checks.open("b1 9 0;d1 20 0;d2 20 0;d3 20 0;", 0, 1, 2), 7), 4, 2, 3, 3, 3, 2, 4);
        Checks.row("WET", Checks.heard(Checks.open("b0 9 1;d1 20 0;d2 20 0;d3 20 0;", 0, 1, 2), 7), 1, 0, 1, 1, 1, 0, 1);
        Checks.row("WET with the ECHO", Checks.heard(Checks.open("b1 9 1;d1 20 0;d2 20 0;d3 20 0;", 0, 1, 2), 7), 2, 0, 2, 2, 2, 0, 2);
        Checks.row("who is not IN does not ring", Checks.heard(Checks.open("b0 9 0;d1 20 0;d2 20 0;d3 20 0;", 1), 4), 1, 0, 1, 0);
        Checks.row("nobody", Checks.heard(Checks.open("b1 9 0;d1 20 0;"), 3), 0, 0, 0);
        Checks.row("one bears 2", Checks.heard(Checks.open("b0 9 0;d1 2 0;d1 20 0;", 0, 1), 4), 2, 2, 1, 1);
        BellRope x = Checks.open("b0 0 0;d3 20 0;d1 2 0;", 0, 1);
        Checks.due("quarter(4) is the latest", x.quarter(4), 1);
        Checks.row("PINTS, PAID, hour, QUARTERS",
            new int[] {x.drinker(0, 4), x.drinker(1, 4), x.told(11), x.told(8), x.told(6)}, 2, 2, 4, 3, 4);
    }

    private static void promise10Blanket() {
        Checks.row("SEXTON", Checks.heard(Checks.open("b1 2 0;d1 20 0;d2 20 0;d2 20 0;s1 3;", 0, 1, 2), 6), 4, 0, 2, 0, 4, 2);
        Checks.row("two SEXTONS overlap", Checks.heard(Checks.open("b1 2 0;d1 20 0;d2 20 0;d2 20 0;s0 2;s1 2;", 0, 1, 2), 4), 2, 0, 2, 2);
        Checks.row("WET, then the BLANKET", Checks.heard(Checks.open("b1 1 1;d1 20 0;d1 20 0;d1 20 0;d2 20 0;s0 2;", 0, 1, 2, 3), 4), 2, 0, 3, 2);
        Checks.row("K 0", Checks.heard(Checks.open("b0 0 0;d1 20 0;s0 2;", 0), 3), 1, 1, 1);
        BellRope x = Checks.open("b0 1 0;d24 20 0;s95 1;s24 24;", 0);
        x.turn(0, 1);
        x.quarter(95);
        Checks.due("the last QUARTER under the BLANKET", x.quarter(1), 0);
        Checks.due("its RUNG", x.logged(0, 1), 1);
        x.quarter(23);
        Checks.due("day 1 ahead of the SEXTON's", x.quarter(1), 1);
        x.turn(0, 0);
        Checks.due("day 1 in the SEXTON's", x.quarter(1), 0);
        Checks.due("its RUNG", x.logged(0, 1), 1);
    }

    private static void promise10Day() {
        BellRope x = Checks.open("b0 0 2;d1 3 0;d40 20 0;", 0, 1);
        x.turn(1, 25);
        x.quarter(95);
        Checks.due("quarter(1), the last of day 0", x.quarter(1), 1);
        Checks.row("PINTS of the day ahead", new int[] {x.drinker(0, 4), x.drinker(1, 4)}, 3, 3);
        Checks.due("quarter(1), the first of day 1, WET", x.quarter(1), 0);
        Checks.row("PINTS of the new day", new int[] {x.drinker(0, 4), x.drinker(1, 4), x.told(11)}, 1, 0, 7);
        BellRope y = Checks.open("b0 0 0;d1 20 0;", 0);
        y.quarter(11);
        Checks.due("told(8) behind 11", y.told(8), 11);
        y.quarter(1);
        Checks.due("told(8) behind 12", y.told(8), 0);
        y.quarter(96 - 12);
        Checks.due("told(8) behind 20 that were HEARD", y.told(8), 8);
    }

    private static void promise10Refused() {
        BellRope x = new BellRope();
        Checks.due("quarter(0) without an inn", x.quarter(0), BellRope.OUTSIDE);
        Checks.due("quarter(1) without an inn", x.quarter(1), BellRope.NOT);
        Checks.tell(x, "b0 0 0;");
        Checks.due("quarter(0)", x.quarter(0), BellRope.OUTSIDE);
        Checks.due("quarter(97)", x.quarter(97), BellRope.OUTSIDE);
        Checks.due("quarter(-1)", x.quarter(-1), BellRope.OUTSIDE);
        Checks.due("told(6) behind what is refused", x.told(6), 0);
        Checks.due("told(16) behind what is refused", x.told(16), 0);
        // beyond the 512 calls that are promised, but the document tells this bound
        for (int day = 0; day < 937; day++) {
            x.quarter(96);
        }
        x.quarter(48);
        Checks.due("told(6)", x.told(6), 90000);
        Checks.due("quarter(96) at 90000", x.quarter(96), 0);
        Checks.due("told(6)", x.told(6), 90096);
        Checks.due("quarter(1) above", x.quarter(1), BellRope.FULL);
        Checks.due("quarter(97) above", x.quarter(97), BellRope.OUTSIDE);
        Checks.due("drift(1) above", x.drift(1), BellRope.FULL);
        x.undo();
        Checks.due("drift(1) at 90000", x.drift(1), 0);
        Checks.due("drift(1) at 90001", x.drift(1), BellRope.FULL);
    }

    private static void promise11and12() {
        Checks.part("promise 11");
        BellRope x = Checks.open("b0 0 0;" + "d1 20 0;".repeat(7));
        Checks.due("come(6)", x.come(6), 64);
        Checks.due("come(0)", x.come(0), 65);
        Checks.due("come(0) again", x.come(0), BellRope.NOT);
        Checks.due("come(-1)", x.come(-1), BellRope.UNKNOWN);
        Checks.due("come(7)", x.come(7), BellRope.UNKNOWN);
        Checks.due("told(7)", x.told(7), 65);
        Checks.due("told(16)", x.told(16), 2);
        Checks.due("quarter(1)", x.quarter(1), 2);
        Checks.part("promise 12");
        Checks.due("go(6)", x.go(6), 1);
        Checks.due("go(6) again", x.go(6), BellRope.NOT);
        Checks.due("go(7)", x.go(7), BellRope.UNKNOWN);
        Checks.due("go(-1)", x.go(-1), BellRope.UNKNOWN);
        Checks.due("drinker(6, 4) stays", x.drinker(6, 4), 1);
        Checks.due("quarter(1)", x.quarter(1), 1);
        Checks.due("go(0)", x.go(0), 0);
        Checks.due("told(16)", x.told(16), 6);
    }

    private static void promise13() {
        Checks.part("promise 13");
        BellRope x = Checks.open("b0 0 0;d1 5 0;d1 20 0;", 0);
        x.quarter(7);
        Checks.due("drinker(0, 6)", x.drinker(0, 6), 0);
        Checks.due("treat(0, 2)", x.treat(0, 2), 3);
        Checks.due("drinker(0, 6)", x.drinker(0, 6), 1);
        Checks.due("told(11) stays", x.told(11), 5);
        Checks.due("treat(0, 20)", x.treat(0, 20), 0);
        Checks.due("treat(1, 1), who is not IN", x.treat(1, 1), 0);
        Checks.due("told(16)", x.told(16), 5);
        Checks.due("treat(0, 0)", x.treat(0, 0), BellRope.OUTSIDE);
        Checks.due("treat(0, 21)", x.treat(0, 21), BellRope.OUTSIDE);
        Checks.due("treat(2, 0)", x.treat(2, 0), BellRope.UNKNOWN);
        Checks.due("treat(-1, 1)", x.treat(-1, 1), BellRope.UNKNOWN);
        Checks.due("quarter(1)", x.quarter(1), 1);
        Checks.due("drinker(0, 4)", x.drinker(0, 4), 1);
    }

    private static void promise14() {
        Checks.part("promise 14");
        BellRope x = Checks.open("b0 0 0;d4 20 0;d40 20 0;", 0, 1);
        Checks.due("turn(0, 3)", x.turn(0, 3), 0);
        Checks.due("turn(0, 39)", x.turn(0, 39), 3);
        Checks.due("turn(0, 40)", x.turn(0, 40), BellRope.OUTSIDE);
        Checks.due("turn(0, -1)", x.turn(0, -1), BellRope.OUTSIDE);
        Checks.due("turn(2, 40)", x.turn(2, 40), BellRope.UNKNOWN);
        Checks.due("turn(-1, 0)", x.turn(-1, 0), BellRope.UNKNOWN);
        Checks.due("turn(1, 39)", x.turn(1, 39), 0);
        Checks.row("HEARD", Checks.heard(x, 6), 0, 2, 0, 0, 0, 1);
        Checks.due("drinker(0, 5)", x.drinker(0, 5), 39);
    }

    private static void promise15() {
        Checks.part("promise 15");
        BellRope x = Checks.open("b0 1 0;d1 20 0;", 0);
        Checks.due("hang(2)", x.hang(2), 0);
        Checks.due("hang(3)", x.hang(3), 2);
        Checks.row("HEARD", Checks.heard(x, 2), 0, 0);
        Checks.due("told(10)", x.told(10), 1);
        Checks.row("HEARD", Checks.heard(x, 2), 0, 1);
        Checks.due("told(10)", x.told(10), 0);
        Checks.due("hang(96)", x.hang(96), 0);
        Checks.due("hang(0)", x.hang(0), 96);
        Checks.due("quarter(1)", x.quarter(1), 1);
        Checks.due("hang(97)", x.hang(97), BellRope.OUTSIDE);
        Checks.due("hang(-1)", x.hang(-1), BellRope.OUTSIDE);
        BellRope none = new BellRope();
        Checks.due("hang(97) without an inn", none.hang(97), BellRope.OUTSIDE);
        Checks.due("hang(0) without an inn", none.hang(0), BellRope.NOT);
        BellRope both = Checks.open("b0 1 0;d1 20 0;d1 20 0;d1 20 0;s0 9;", 0, 1, 2);
        both.hang(1);
        Checks.due("quarter(1) of both is one BLANKET", both.quarter(1), 2);
    }

    private static void promise16() {
        Checks.part("promise 16");
        BellRope x = Checks.open("b0 0 1;d1 20 0;d1 20 0;", 0, 1);
        Checks.due("quarter(1), as told", x.quarter(1), 1);
        Checks.due("rain(2)", x.rain(2), 0);
        Checks.due("quarter(1), DRY", x.quarter(1), 2);
        Checks.due("rain(1)", x.rain(1), 2);
        x.quarter(96);
        Checks.due("quarter(1), WET on day 1 too", x.quarter(1), 1);
        Checks.due("rain(0)", x.rain(0), 1);
        Checks.due("quarter(1), as told: DRY", x.quarter(1), 2);
        Checks.due("rain(3)", x.rain(3), BellRope.OUTSIDE);
        Checks.due("rain(-1)", x.rain(-1), BellRope.OUTSIDE);
        Checks.due("told(13)", x.told(13), 0);
        BellRope none = new BellRope();
        Checks.due("rain(3) without an inn", none.rain(3), BellRope.OUTSIDE);
        Checks.due("rain(1) without an inn", none.rain(1), BellRope.NOT);
    }

    private static void promise17() {
        Checks.part("promise 17");
        BellRope x = Checks.open("b0 0 0;d1 20 0;d1 20 0;d1 20 0;");
        x.seed(123);
        long seed = 123;
        int inside = 0;
        int weather = 0;
        for (int i = 0; i < 96; i++) {
            seed = (seed * 1103515245L + 12345L) % 2147483648L;
            int d = (int) (seed / 65536 % 3);
            seed = (seed * 1103515245L + 12345L) % 2147483648L;
            int deed = (int) (seed / 65536 % 6);
            inside = deed == 0 ? inside | 1 << d : deed == 1 ? inside & ~(1 << d) : inside;
            if (deed == 2) {
                seed = (seed * 1103515245L + 12345L) % 2147483648L;
                weather = (int) (seed / 65536 % 3);
            }
            x.drift(1);
            Checks.row("who is IN, RAIN behind " + i, new int[] {x.told(7), x.told(13)}, inside, weather);
        }
        Checks.due("seed(0)", x.seed(0), seed);
        BellRope once = Checks.open("b0 0 0;d1 20 0;d1 20 0;d1 20 0;");
        once.seed(123);
        Checks.due("drift(96) at once", once.drift(96), x.logged(0, 0));
        Checks.row("all is as one by one", new int[] {once.told(7), once.told(11), once.told(13), once.told(16)}, inside, x.told(11), weather, 1);
        BellRope empty = Checks.open("b0 0 0;");
        empty.seed(9);
        Checks.due("drift(5) without DRINKERS", empty.drift(5), 0);
        Checks.row("QUARTERS, THE SEED", new int[] {empty.told(6), empty.seed(0)}, 5, 9);
        Checks.due("drift(0)", empty.drift(0), BellRope.OUTSIDE);
        Checks.due("drift(97)", empty.drift(97), BellRope.OUTSIDE);
        Checks.due("drift(97) without an inn", new BellRope().drift(97), BellRope.OUTSIDE);
        Checks.due("drift(1) without an inn", new BellRope().drift(1), BellRope.NOT);
    }

    private static void promise18() {
        Checks.part("promise 18");
        BellRope x = Checks.open("b0 0 0;d1 20 0;", 0);
        for (int i = 1; i <= 20; i++) {
            x.quarter(1);
            Checks.due("told(16)", x.told(16), Math.min(16, i + 1));
        }
        for (int i = 15; i >= 0; i--) {
            Checks.due("undo()", x.undo(), i);
            Checks.due("told(6)", x.told(6), 4 + i);
        }
        Checks.due("undo() of none", x.undo(), BellRope.NOT);
        Checks.row("PINTS, PAID, hour, LOG, IN",
            new int[] {x.drinker(0, 4), x.told(11), x.told(8), x.told(12), x.told(7)}, 4, 4, 4, 4, 1);
        x.quarter(1);
        Checks.due("undo() again", x.undo(), 0);
        Checks.due("undo() without an inn", new BellRope().undo(), BellRope.NOT);
    }

    private static void promise18Kinds() {
        BellRope x = Checks.open("b0 1 0;d1 20 0;d2 20 0;", 0);
        x.quarter(41);
        x.come(1);
        x.go(0);
        x.turn(1, 7);
        x.hang(9);
        x.rain(1);
        x.treat(0, 3);
        x.seed(5);
        x.drift(50);
        int seed = x.seed(5);
        x.seed(seed);
        Checks.due("undo() of drift", x.undo(), 8);
        Checks.due("THE SEED stays", x.seed(seed), seed);
        Checks.row("told(6), (10), drinker(0, 4)", new int[] {x.told(6), x.told(10), x.drinker(0, 4)}, 41, 9, 17);
        Checks.row("undo() of treat", new int[] {x.undo(), x.drinker(0, 4)}, 7, 20);
        Checks.row("undo() of rain", new int[] {x.undo(), x.told(13)}, 6, 0);
        Checks.row("undo() of hang", new int[] {x.undo(), x.told(10)}, 5, 0);
        Checks.row("undo() of turn", new int[] {x.undo(), x.drinker(1, 5)}, 4, 0);
        Checks.row("undo() of go", new int[] {x.undo(), x.told(7)}, 3, 3);
        Checks.row("undo() of come", new int[] {x.undo(), x.told(7)}, 2, 1);
        // the latest 40 of 41: RUNG in the first 20 alone
        Checks.row("THE LOG is as it was", new int[] {x.logged(21, 1), x.logged(20, 1), x.logged(39, 1)}, 1, 0, 1);
        x.write(0, 3);
        x.was(1, 1);
        Checks.row("undo() of quarter", new int[] {x.undo(), x.told(6), x.told(12), x.drinker(0, 4)}, 1, 0, 0, 0);
        Checks.row("what is known stays", new int[] {x.told(14), x.told(15)}, 1, 1);
    }
}

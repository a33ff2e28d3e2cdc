/** Promises 1 to 9: a new object, and the inn as it is told. */
public final class InnTest {
    private static final String B = "b0 0 0;";

    public static void main(String[] args) {
        promise1();
        promise2();
        promise3Texts();
        promise3Clauses();
        promise3Limits();
        promise3Anew();
        promise4();
        promise5();
        promise6();
        promise7and8();
        promise9();
        Checks.end();
    }

    private static void promise1() {
        Checks.part("promise 1");
        BellRope x = new BellRope();
        for (int what = 0; what <= 16; what++) {
            Checks.due("told(" + what + ")", x.told(what), 0);
        }
        Checks.due("fault()", x.fault(), -1);
        Checks.due("drinker(0, 0)", x.drinker(0, 0), BellRope.UNKNOWN);
        Checks.due("goer(0, 0)", x.goer(0, 0), BellRope.UNKNOWN);
        Checks.due("signal(0)", x.signal(0), BellRope.UNKNOWN);
        Checks.due("logged(0, 0)", x.logged(0, 0), -1);
        Checks.due("quarter(1)", x.quarter(1), BellRope.NOT);
        Checks.due("goBack(0)", x.goBack(0), BellRope.NOT);
        Checks.due("undo()", x.undo(), BellRope.NOT);
        Checks.due("seed(1)", x.seed(1), 0);
    }

    private static void promise2() {
        Checks.part("promise 2");
        BellRope x = new BellRope();
        Checks.due("feed(-1)", x.feed(-1), BellRope.OUTSIDE);
        Checks.due("feed(256)", x.feed(256), BellRope.OUTSIDE);
        Checks.due("feed(0)", x.feed(0), 1);
        Checks.due("feed(255)", x.feed(255), 2);
        for (int i = 3; i <= 240; i++) {
            Checks.due("feed(32)", x.feed(32), i);
        }
        Checks.due("feed(32), the 241st", x.feed(32), BellRope.FULL);
        Checks.due("feed(256), full", x.feed(256), BellRope.OUTSIDE);
        Checks.due("told(5)", x.told(5), 240);
        Checks.due("inn()", x.inn(), -11);
        Checks.due("feed(98) of a new text", x.feed(98), 1);
    }

    /** What a text answers, and where its FAULT is. */
    private static void text(String text, int answer, int place) {
        BellRope x = new BellRope();
        Checks.due("inn() of \"" + text + "\"", Checks.tell(x, text), answer);
        Checks.due("fault() of \"" + text + "\"", x.fault(), place);
        Checks.due("told(5) behind \"" + text + "\"", x.told(5), 0);
    }

    private static void promise3Texts() {
        Checks.part("promise 3");
        text("", 0, -1);
        text("   ", 0, -1);
        text(B, 0, -1);
        text("b1 9 127;", 0, -1);
        text("b001 009 127;", 0, -1);
        text(" b 0 0 0 ; d 1 1 0 ; ", 1, -1);
        text("d1 1 1;", -11, 0);
        text("  n1;", -11, 2);
        text("x", -11, 0);
        text(";", -11, 0);
        text("5", -11, 0);
        text("\0", -11, 0);
        text("\u00ff", -11, 0);
        text("b", -11, 1);
        text("b 0 ", -11, 4);
        text("b0 0 0", -11, 6);
        text("b0 0 0  ", -11, 8);
        text("b0 0;", -11, 4);
        text("b000;", -11, 4);
        text("b0 0 0 0;", -11, 7);
        text("b0 0 0 1234;", -11, 7);
        text("b0 0 b", -11, 5);
        text("b2 0 0;", -12, 1);
        text("b0 10 0;", -12, 3);
        text("b0 0 128;", -12, 5);
        text("b0 0 0000;", -12, 5);
        text("b0 0 0999999999999999999999999;", -12, 5);
        text("b0 0 00x", -11, 7);
        text("b2x", -12, 1);
        text(B + "b0 0 0;", -13, 7);
        text(B + "b", -13, 7);
        text(B + " b2", -13, 8);
        text(B + ";", -11, 7);
        text(B + "0", -11, 7);
        text(B + "D1 1 1;", -11, 7);
        text(B + "d1\t1 1;", -11, 9);
        text(B + "d1 1 1d1 1 1;", -11, 13);
    }

    private static void promise3Clauses() {
        text(B + "d40 20 100;", 1, -1);
        text(B + "d0 1 0;", -12, 8);
        text(B + "d41 1 0;", -12, 8);
        text(B + "d1 0 0;", -12, 10);
        text(B + "d1 21 0;", -12, 10);
        text(B + "d1 1 101;", -12, 12);
        text(B + "s95 1;s0 24;s72 24;", 0, -1);
        text(B + "s96 1;", -12, 8);
        text(B + "s0 0;", -12, 10);
        text(B + "s0 25;", -12, 10);
        text(B + "s95 2;", -12, 11);
        text(B + "s73 24;", -12, 11);
        text(B + "g0 0;g95 40;", 0, -1);
        text(B + "g96 0;", -12, 8);
        text(B + "g0 41;", -12, 10);
        text(B + "g0;", -11, 9);
        text(B + "n1;n16;", 0, -1);
        text(B + "n0;", -12, 8);
        text(B + "n17;", -12, 8);
        text(B + "n;", -11, 8);
        text(B + "n1 2;", -11, 10);
        text(B + "n1;n1;", -14, 11);
        text(B + "n1;n2;n 001x", -14, 15);
        text(B + "n1;n17;", -12, 11);
    }

    private static void promise3Limits() {
        text(B + "d1 1 0;".repeat(7), 7, -1);
        text(B + "d1 1 0;".repeat(8), -13, 56);
        text(B + "s0 1;".repeat(4), 0, -1);
        text(B + "s0 1;".repeat(4) + " s", -13, 28);
        text(B + "g0 0;".repeat(6), 0, -1);
        text(B + "g0 0;".repeat(7), -13, 37);
        text(B + "n1;n2;n3;n4;n5;", 0, -1);
        text(B + "n1;n2;n3;n4;n5;n5;", -13, 22);
        text(B + "d1 1 0;".repeat(7) + "s0 1;".repeat(4) + "g0 0;".repeat(6) + "n1;n2;n3;n4;n5;" + "b", -13, 121);
        text(B + " ".repeat(226) + "d1 1 0;", 1, -1);
        text(B + " ".repeat(227) + "d1 1 0;", -11, 240);
    }

    private static void promise3Anew() {
        BellRope x = Checks.open("b1 2 0;d1 9 0;d2 9 0;g5 5;n3;", 0, 1);
        x.seed(77);
        x.was(3, 2);
        x.write(0, 3);
        x.turn(0, 3);
        x.quarter(1);
        x.hang(50);
        x.rain(1);
        x.quarter(5);
        x.keep(0);
        x.quarter(1);
        Checks.due("inn() with a fault", Checks.tell(x, "b0 0 0;d"), -11);
        Checks.row("told(2), (6), (14), (15), (16) behind a fault",
            new int[] {x.told(2), x.told(6), x.told(14), x.told(15), x.told(16)}, 2, 7, 1, 1, 1);
        Checks.due("inn()", Checks.tell(x, "b0 1 0;d3 4 5;"), 1);
        int[] got = new int[17];
        for (int what = 0; what <= 16; what++) {
            got[what] = x.told(what);
        }
        Checks.row("told(0 .. 16) anew", got, 0, 1, 1, 0, 0, 0, 0, 0, 0, 0, 0, 0, 0, 0, 0, 0, 0);
        Checks.due("drinker(0, 4)", x.drinker(0, 4), 0);
        Checks.due("drinker(0, 5)", x.drinker(0, 5), 0);
        Checks.due("goBack(0)", x.goBack(0), BellRope.NOT);
        Checks.due("undo()", x.undo(), BellRope.NOT);
        Checks.due("could(0)", x.could(0), 2);
        Checks.due("logged(0, 0)", x.logged(0, 0), -1);
        Checks.due("seed(0) stays", x.seed(0), 77);
        Checks.due("inn() of nothing", x.inn(), 0);
        Checks.due("told(2) without an inn", x.told(2), 0);
        Checks.due("told(1) without an inn", x.told(1), 0);
        Checks.due("quarter(1) without an inn", x.quarter(1), BellRope.NOT);
        Checks.due("come(0) without an inn", x.come(0), BellRope.UNKNOWN);
        sextonsAnew();
        thirdInn();
        shorterTexts();
    }

    /** What stood behind THE TEXT once is not of it. */
    private static void shorterTexts() {
        String[] shorter = {"b0 0 1;", "b0 0 1", "b0 0 12;", "b0 0 1", "b0 0 ", "b0  ", "b", " ", "", "b0 0 0;n2", "b0 0 0;n1 ; ", "b0 0 0;n1"};
        int[] answers = {0, -11, 0, -11, -11, -11, -11, 0, 0, -11, 0, -11};
        int[] places = {-1, 6, -1, 6, 5, 4, 1, -1, -1, 9, -1, 9};
        BellRope x = new BellRope();
        for (int i = 0; i < shorter.length; i++) {
            Checks.due("inn() of \"" + shorter[i] + "\" behind others", Checks.tell(x, shorter[i]), answers[i]);
            Checks.due("fault() of \"" + shorter[i] + "\" behind others", x.fault(), places[i]);
        }
        Checks.tell(x, "b0 0 12;");
        Checks.tell(x, "b0 0 1");
        Checks.due("fault() where a figure stood", x.fault(), 6);
    }

    /** Nothing of an inn may come back with one that is told much later. */
    private static void thirdInn() {
        String whole = "b1 9 127;d1 9 9;s0 24;s24 24;s48 24;s72 24;" + "g5 5;".repeat(6) + "n1;n2;n3;n4;n5;";
        BellRope x = Checks.open(whole);
        for (int i = 0; i < 3; i++) {
            Checks.due("inn() of the whole again", Checks.tell(x, whole), 1);
        }
        Checks.due("inn() of nothing", x.inn(), 0);
        Checks.due("inn() of nothing again", x.inn(), 0);
        Checks.row("told(0 .. 4), (9)", new int[] {x.told(0), x.told(1), x.told(2), x.told(3), x.told(4), x.told(9)}, 0, 0, 0, 0, 0, 0);
        Checks.due("inn() of the whole", Checks.tell(x, whole), 1);
        Checks.due("inn() of the whole", Checks.tell(x, whole), 1);
        Checks.due("inn() of one drinker", Checks.tell(x, "b0 9 0;d1 9 9;"), 1);
        x.come(0);
        Checks.row("told(0 .. 4), (9)", new int[] {x.told(0), x.told(1), x.told(2), x.told(3), x.told(4), x.told(9)}, 0, 9, 1, 0, 0, 0);
        Checks.row("quarter(1), goer(0, 0), signal(0)", new int[] {x.quarter(1), x.goer(0, 0), x.signal(0)}, 1, BellRope.UNKNOWN, BellRope.UNKNOWN);
    }

    private static void sextonsAnew() {
        BellRope x = Checks.open("b0 9 0;d1 9 0;s0 24;", 0);
        Checks.due("quarter(1) under the blanket", x.quarter(1), 0);
        Checks.tell(x, "b0 9 0;d1 9 0;");
        x.come(0);
        Checks.due("quarter(1) without a sexton", x.quarter(1), 1);
    }

    private static void promise4() {
        Checks.part("promise 4");
        BellRope x = new BellRope();
        Checks.due("fault()", x.fault(), -1);
        Checks.tell(x, "b0 0 9999;");
        Checks.due("fault()", x.fault(), 5);
        Checks.feed(x, B);
        Checks.due("fault() ahead of the next inn()", x.fault(), 5);
        x.inn();
        Checks.due("fault() of none", x.fault(), -1);
        Checks.tell(x, "b0 0 0;g1");
        Checks.due("fault() at the end", x.fault(), 9);
        x.inn();
        Checks.due("fault() of an empty text", x.fault(), -1);
    }

    private static void promise5() {
        Checks.part("promise 5");
        BellRope x = Checks.open("b1 3 5;d1 20 0;d2 20 0;d3 20 0;g1 1;g2 2;n7;", 0, 2);
        x.was(1, 1);
        x.was(2, 1);
        x.write(0, 1);
        x.write(0, 1);
        x.write(0, 1);
        x.feed('b');
        Checks.due("told(9), day 0 is WET", x.told(9), 1);
        x.quarter(95);
        Checks.due("told(9) in the last QUARTER of day 0", x.told(9), 1);
        x.hang(30);
        x.quarter(1);
        Checks.due("told(9), day 1 is DRY", x.told(9), 0);
        x.rain(2);
        int[] got = new int[17];
        for (int what = 0; what <= 16; what++) {
            got[what] = x.told(what);
        }
        // day 0 is WET: 7 times both are THIRSTY in QUARTERS 0 .. 19: 2 / 2 and the ECHO
        Checks.row("told(0 .. 16)", got, 1, 3, 3, 2, 1, 1, 96, 5, 7, 0, 29, 40, 40, 2, 2, 3, 6);
        x.rain(1);
        Checks.due("told(9), RAIN 1", x.told(9), 1);
        x.rain(0);
        x.quarter(96);
        Checks.due("told(9), day 2 is WET", x.told(9), 1);
        x.rain(2);
        Checks.due("told(9), RAIN 2", x.told(9), 0);
        x.rain(0);
        x.quarter(96);
        x.quarter(96);
        x.quarter(96);
        x.quarter(96);
        Checks.due("told(9), day 6 is DRY", x.told(9), 0);
        x.quarter(96);
        Checks.due("told(9), day 7 is as day 0", x.told(9), 1);
        Checks.due("told(12), 40 at most", x.told(12), 40);
        Checks.due("told(-1)", x.told(-1), BellRope.OUTSIDE);
        Checks.due("told(17)", x.told(17), BellRope.OUTSIDE);
        BellRope last = Checks.open("b0 0 64;");
        for (int day = 0; day < 7; day++) {
            Checks.due("told(9) on day " + day, last.told(9), day == 6 ? 1 : 0);
            last.quarter(96);
        }
    }

    private static void promise6() {
        Checks.part("promise 6");
        BellRope x = Checks.open("b0 0 0;d1 2 30;d40 20 100;d2 1 0;", 0);
        int[][] want = {{1, 2, 30, 1, 0, 0, 1}, {40, 20, 100, 0, 0, 0, 0}, {2, 1, 0, 0, 0, 0, 0}};
        for (int d = 0; d < 3; d++) {
            for (int what = 0; what < 7; what++) {
                Checks.due("drinker(" + d + ", " + what + ")", x.drinker(d, what), want[d][what]);
            }
        }
        x.turn(2, 1);
        x.come(2);
        Checks.due("drinker(2, 6), not his turn", x.drinker(2, 6), 0);
        x.quarter(1);
        Checks.due("drinker(2, 6), his turn", x.drinker(2, 6), 1);
        Checks.due("drinker(2, 5)", x.drinker(2, 5), 1);
        x.quarter(1);
        Checks.due("drinker(0, 4), as many as he bears", x.drinker(0, 4), 2);
        Checks.due("drinker(0, 6), as many as he bears", x.drinker(0, 6), 0);
        x.quarter(94);
        Checks.due("drinker(0, 4), of the day ahead", x.drinker(0, 4), 2);
        Checks.due("drinker(0, 6), a new day", x.drinker(0, 6), 1);
        Checks.due("drinker(-1, 0)", x.drinker(-1, 0), BellRope.UNKNOWN);
        Checks.due("drinker(3, 0)", x.drinker(3, 0), BellRope.UNKNOWN);
        Checks.due("drinker(3, 7)", x.drinker(3, 7), BellRope.UNKNOWN);
        Checks.due("drinker(0, 7)", x.drinker(0, 7), BellRope.OUTSIDE);
        Checks.due("drinker(0, -1)", x.drinker(0, -1), BellRope.OUTSIDE);
    }

    private static void promise7and8() {
        Checks.part("promise 7");
        BellRope x = Checks.open("b0 0 0;g3 4;g95 40;n16;n1;n007;");
        Checks.row("goers", new int[] {x.goer(0, 0), x.goer(0, 1), x.goer(1, 0), x.goer(1, 1)}, 3, 4, 95, 40);
        Checks.due("goer(2, 0)", x.goer(2, 0), BellRope.UNKNOWN);
        Checks.due("goer(-1, 9)", x.goer(-1, 9), BellRope.UNKNOWN);
        Checks.due("goer(0, 2)", x.goer(0, 2), BellRope.OUTSIDE);
        Checks.due("goer(0, -1)", x.goer(0, -1), BellRope.OUTSIDE);
        Checks.part("promise 8");
        Checks.row("signals", new int[] {x.signal(0), x.signal(1), x.signal(2)}, 16, 1, 7);
        Checks.due("signal(3)", x.signal(3), BellRope.UNKNOWN);
        Checks.due("signal(-1)", x.signal(-1), BellRope.UNKNOWN);
    }

    private static void promise9() {
        Checks.part("promise 9");
        BellRope x = Checks.open("b1 0 2;d1 20 0;d2 20 0;d3 20 0;", 0, 1, 2);
        Checks.due("logged(0, 0) of none", x.logged(0, 0), -1);
        x.quarter(4);
        // QUARTERS 0 .. 3: RUNG 3, 1, 2, 2
        Checks.row("HEARD", new int[] {x.logged(0, 0), x.logged(1, 0), x.logged(2, 0), x.logged(3, 0)}, 3, 3, 2, 4);
        Checks.row("RUNG", new int[] {x.logged(0, 1), x.logged(1, 1), x.logged(2, 1), x.logged(3, 1)}, 2, 2, 1, 3);
        Checks.due("logged(4, 0)", x.logged(4, 0), -1);
        Checks.due("logged(-1, 1)", x.logged(-1, 1), -1);
        Checks.due("logged(0, 2)", x.logged(0, 2), BellRope.OUTSIDE);
        Checks.due("logged(9, -1)", x.logged(9, -1), BellRope.OUTSIDE);
        x.quarter(36);
        Checks.due("logged(39, 1), the first QUARTER yet", x.logged(39, 1), 3);
        x.quarter(1);
        Checks.due("logged(39, 1), the second QUARTER", x.logged(39, 1), 1);
        Checks.due("logged(40, 1)", x.logged(40, 1), -1);
    }
}

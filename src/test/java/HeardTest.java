/** Promises 35 to 41: what was heard, and the book. */
public final class HeardTest {
    private static final int NOT = BellRope.NOT;
    private static final int OUTSIDE = BellRope.OUTSIDE;
    private static final int UNKNOWN = BellRope.UNKNOWN;
    private static final int FULL = BellRope.FULL;

    public static void main(String[] args) {
        promise35();
        promise36();
        promise36Circumstances();
        promise37();
        promise37Parts();
        promise38();
        promise39();
        promise40();
        promise41();
        Checks.end();
    }

    /** could(0 .. 3). */
    private static int[] could(BellRope x) {
        return new int[] {x.could(0), x.could(1), x.could(2), x.could(3)};
    }

    private static void promise35() {
        Checks.part("promise 35");
        BellRope x = Checks.open("b0 0 0;d1 20 0;");
        Checks.due("was(0, 1)", x.was(0, 1), 1);
        Checks.due("was(95, 16)", x.was(95, 16), 2);
        Checks.due("was(0, 1) again", x.was(0, 1), 3);
        Checks.due("was(-1, 0)", x.was(-1, 0), OUTSIDE);
        Checks.due("was(96, 0)", x.was(96, 0), OUTSIDE);
        Checks.due("was(0, -1)", x.was(0, -1), OUTSIDE);
        Checks.due("was(0, 17)", x.was(0, 17), OUTSIDE);
        Checks.due("was(0, 0)", x.was(0, 0), 4);
        Checks.due("was(0, 0)", x.was(0, 0), 5);
        Checks.due("was(0, 0)", x.was(0, 0), 6);
        Checks.due("was(0, 0), the seventh", x.was(0, 0), FULL);
        Checks.due("was(0, 17), full", x.was(0, 17), OUTSIDE);
        Checks.due("told(14)", x.told(14), 6);
        Checks.due("told(16): it can't be undone", x.told(16), 0);
        Checks.due("was(0, 17) without an inn", new BellRope().was(0, 17), OUTSIDE);
        Checks.due("was(0, 0) without an inn", new BellRope().was(0, 0), NOT);
    }

    private static void promise36() {
        Checks.part("promise 36");
        BellRope x = Checks.open("b0 0 0;d1 20 0;d2 20 0;d3 20 0;");
        Checks.row("nothing known", could(x), 8, 0, 0, 0);
        x.was(4, 1);
        // one of 0, 1: with 2 or without
        Checks.row("was(4, 1)", could(x), 4, 1, 0, 0);
        x.was(3, 1);
        // one of 0, 2, too: 0 alone, or 1 and 2
        Checks.row("was(3, 1)", could(x), 2, 1, 0, 0);
        x.was(1, 0);
        Checks.row("was(1, 0): not 0", could(x), 1, 6, 6, 1);
        x.was(6, 3);
        Checks.row("was(6, 3): none", could(x), 0, -1, 0, 0);
        x.tear();
        x.was(6, 2);
        x.was(2, 2);
        Checks.row("0 and 1 without 2", could(x), 1, 3, 3, 4);
        x.tear();
        x.was(1, 1);
        Checks.row("0 is IN", could(x), 4, 1, 1, 0);
        Checks.due("could(4)", x.could(4), OUTSIDE);
        Checks.due("could(-1)", x.could(-1), OUTSIDE);
        Checks.due("could(4) without an inn", new BellRope().could(4), OUTSIDE);
        Checks.due("could(0) without an inn", new BellRope().could(0), NOT);
        Checks.row("without DRINKERS", could(Checks.open("b0 0 0;")), 1, 0, 0, 0);
        Checks.row("of seven", could(Checks.open("b0 0 0;" + "d1 1 0;".repeat(7))), 128, 0, 0, 0);
        BellRope all = Checks.open("b0 0 0;" + "d1 1 0;".repeat(7));
        all.was(9, 7);
        Checks.row("all seven", could(all), 1, 127, 127, 0);
        all.tear();
        all.was(9, 0);
        Checks.row("none of seven", could(all), 1, 0, 0, 127);
    }

    /** PINTS, who is IN, RAIN, HUNG, WET days do not count; TURNS, the SEXTON, the ECHO do. */
    private static void promise36Circumstances() {
        BellRope x = Checks.open("b1 1 127;d2 1 0;d2 1 0;s4 2;", 0);
        x.quarter(1);
        x.rain(1);
        x.hang(96);
        x.was(2, 3);
        Checks.row("both and the ECHO, on a DRY day", could(x), 1, 3, 3, 0);
        x.tear();
        x.was(4, 2);
        Checks.row("both, the BLANKET and the ECHO", could(x), 1, 3, 3, 0);
        x.tear();
        x.was(4, 0);
        Checks.row("at most one", could(x), 3, 0, 0, 0);
        x.tear();
        x.was(6, 1);
        Checks.row("the ECHO leaves no 1", could(x), 0, -1, 0, 0);
        x.tear();
        x.turn(1, 1);
        x.was(3, 2);
        Checks.row("TURN", could(x), 2, 2, 2, 0);
        x.was(2, 0);
        Checks.row("TURN", could(x), 1, 2, 2, 1);
        x.turn(1, 0);
        Checks.row("another TURN", could(x), 0, -1, 0, 0);
    }

    private static void promise37() {
        Checks.part("promise 37");
        BellRope x = Checks.open("b0 0 0;d2 20 0;d3 20 0;");
        // QUARTER 0: 0, 1, 1, 2 of four SETS: the greatest part is 2; as at 2, 3
        Checks.due("listen()", x.listen(), 0);
        x.was(0, 1);
        // 1 or 2 alone: 0 tells nothing, 2 parts them
        Checks.due("listen()", x.listen(), 2);
        x.was(2, 1);
        Checks.due("listen(), one SET", x.listen(), -1);
        x.was(2, 0);
        Checks.due("listen(), no SET", x.listen(), -1);
        Checks.due("listen() without an inn", new BellRope().listen(), NOT);
        Checks.due("listen() without DRINKERS", Checks.open("b0 0 0;").listen(), -1);
        BellRope late = Checks.open("b0 0 0;d40 20 0;", 0);
        late.turn(0, 24);
        Checks.due("listen() to 16", late.listen(), 16);
        BellRope alike = Checks.open("b0 0 0;d2 20 0;d2 20 0;");
        alike.was(0, 1);
        Checks.due("listen(), none parts them", alike.listen(), -1);
    }

    private static void promise37Parts() {
        // QUARTER 5 alone has all three (TURNS); 0 has one
        BellRope x = Checks.open("b0 0 0;d5 20 0;d20 20 0;d20 20 0;");
        x.turn(1, 15);
        x.turn(2, 15);
        // at 0 four and four; at 5: 1, 3, 3, 1
        Checks.due("listen(), the greatest part is 3", x.listen(), 5);
        x.was(5, 2);
        // {0, 1}, {0, 2}, {1, 2}: 0 parts them 2 to 1
        Checks.due("listen()", x.listen(), 0);
        BellRope muffled = Checks.open("b0 1 0;d1 20 0;d1 20 0;s0 24;s24 24;s48 24;s72 23;");
        // under the BLANKET 0, 0, 0, 1; at 95: 0, 1, 1, 2
        Checks.due("listen() beyond the SEXTON", muffled.listen(), 95);
        BellRope never = Checks.open("b1 9 0;d1 20 0;d1 20 0;s0 24;s24 24;s48 24;s72 24;");
        Checks.due("listen() under the BLANKET all day", never.listen(), -1);
    }

    private static void promise38() {
        Checks.part("promise 38");
        BellRope x = Checks.open("b1 3 0;d1 1 0;d1 1 0;d1 1 0;d2 1 0;d1 20 0;s1 2;", 0, 1, 2);
        Checks.due("muffled(), nothing known", x.muffled(), 1023);
        x.was(1, 2);
        Checks.due("muffled(): 2 are taken of 3", x.muffled(), 4);
        x.was(1, 0);
        Checks.due("muffled() of both", x.muffled(), 0);
        x.tear();
        x.was(2, 0);
        Checks.due("muffled(): 3 or more", x.muffled(), 1023 - 7);
        x.come(3);
        // 4 at 2
        Checks.due("muffled(): 4 or more", x.muffled(), 1023 - 15);
        x.was(3, 4);
        Checks.due("muffled(), off the BLANKET", x.muffled(), 1023 - 15);
        x.was(3, 3);
        Checks.due("muffled(), otherwise", x.muffled(), 0);
        x.tear();
        x.was(1, 4);
        Checks.due("muffled(): 0", x.muffled(), 1);
        Checks.due("muffled() without an inn", new BellRope().muffled(), NOT);
    }

    private static void promise39() {
        Checks.part("promise 39");
        BellRope x = Checks.open("b0 0 0;d1 20 0;d1 20 0;");
        Checks.due("write(1, 20)", x.write(1, 20), 1);
        Checks.due("write(0, 21)", x.write(0, 21), OUTSIDE);
        Checks.due("write(0, -1)", x.write(0, -1), OUTSIDE);
        Checks.due("write(2, 21)", x.write(2, 21), UNKNOWN);
        Checks.due("write(-1, 0)", x.write(-1, 0), UNKNOWN);
        for (int i = 2; i <= 15; i++) {
            Checks.due("write(0, 0)", x.write(0, 0), i);
        }
        Checks.due("write(0, 0), the sixteenth", x.write(0, 0), FULL);
        Checks.due("write(0, 21), full", x.write(0, 21), OUTSIDE);
        Checks.due("write(2, 0), full", x.write(2, 0), UNKNOWN);
        Checks.due("told(15)", x.told(15), 15);
        Checks.due("write(0, 0) without an inn", new BellRope().write(0, 0), UNKNOWN);
    }

    private static void promise40() {
        Checks.part("promise 40");
        BellRope x = Checks.open("b0 0 0;d1 20 0;");
        Checks.due("tear() of nothing", x.tear(), 0);
        x.was(0, 0);
        x.was(0, 0);
        x.write(0, 3);
        x.write(0, 3);
        x.write(0, 3);
        Checks.due("tear()", x.tear(), 5);
        Checks.row("told(14), (15), judge(), could(0)", new int[] {x.told(14), x.told(15), x.judge(), x.could(0)}, 0, 0, -1, 2);
        Checks.due("tear() again", x.tear(), 0);
        Checks.due("was(0, 0)", x.was(0, 0), 1);
        Checks.due("write(0, 0)", x.write(0, 0), 1);
        Checks.due("tear() without an inn", new BellRope().tear(), 0);
    }

    private static void promise41() {
        Checks.part("promise 41");
        BellRope x = Checks.open("b0 0 0;d1 3 0;d1 20 0;", 0, 1);
        Checks.due("judge() of none", x.judge(), -1);
        x.write(0, 0);
        x.write(1, 0);
        x.write(1, 5);
        Checks.due("judge()", x.judge(), 2);
        x.quarter(5);
        Checks.due("judge()", x.judge(), 0);
        x.treat(0, 9);
        Checks.due("judge()", x.judge(), 1);
        x.tear();
        x.write(1, 5);
        Checks.due("judge() of what is so", x.judge(), -1);
        x.go(1);
        Checks.due("judge(), who is not IN any more", x.judge(), -1);
        x.undo();
        x.quarter(91);
        x.write(1, 20);
        Checks.due("judge() of the day ahead", x.judge(), 0);
        Checks.due("judge() without an inn", new BellRope().judge(), -1);
    }
}

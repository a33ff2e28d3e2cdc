/** Promises 42 to 44: THE SEED and the images. */
public final class DrawsTest {
    private static final int NOT = BellRope.NOT;
    private static final int UNKNOWN = BellRope.UNKNOWN;

    public static void main(String[] args) {
        promise42();
        promise43();
        promise44();
        promise44Anew();
        Checks.end();
    }

    private static void promise42() {
        Checks.part("promise 42");
        BellRope x = new BellRope();
        Checks.due("seed(2147483647)", x.seed(2147483647), 0);
        Checks.due("seed(-1)", x.seed(-1), BellRope.OUTSIDE);
        Checks.due("seed(-2147483648)", x.seed(-2147483648), BellRope.OUTSIDE);
        Checks.due("seed(0)", x.seed(0), 2147483647);
        Checks.tell(x, "b0 0 0;d1 1 0;");
        x.drift(1);
        // DRAWS of 0: 12345, then 12345 * 1103515245 + 12345 left over: 1406932606 / 65536 is 21468, by 6: 0: he COMES
        Checks.row("told(7), THE SEED", new int[] {x.told(7), x.seed(2147483647)}, 1, 1406932606);
        Checks.due("told(16): seed can't be undone", x.told(16), 1);
        x.drift(96);
        Checks.due("THE SEED is never below 0", x.seed(1) >= 0 ? 1 : 0, 1);
    }

    private static void promise43() {
        Checks.part("promise 43");
        BellRope x = new BellRope();
        Checks.due("keep(0) without an inn", x.keep(0), 1);
        Checks.due("keep(2)", x.keep(2), UNKNOWN);
        Checks.due("keep(-1)", x.keep(-1), UNKNOWN);
        Checks.tell(x, "b0 0 0;d1 20 0;");
        x.come(0);
        x.quarter(1);
        Checks.due("told(16)", x.told(16), 2);
        Checks.due("keep(2)", x.keep(2), UNKNOWN);
        Checks.due("told(16) behind what is refused", x.told(16), 2);
        Checks.due("keep(1)", x.keep(1), 1);
        Checks.due("told(16)", x.told(16), 0);
        Checks.due("undo()", x.undo(), NOT);
        Checks.due("told(6) stays", x.told(6), 1);
    }

    private static void promise44() {
        Checks.part("promise 44");
        BellRope x = Checks.open("b0 1 0;d1 20 0;d2 20 0;", 0, 1);
        Checks.due("goBack(0), not kept", x.goBack(0), NOT);
        Checks.due("goBack(2)", x.goBack(2), UNKNOWN);
        Checks.due("goBack(-1)", x.goBack(-1), UNKNOWN);
        x.quarter(3);
        x.turn(0, 4);
        x.hang(7);
        x.rain(2);
        x.seed(99);
        x.keep(0);
        int[] kept = state(x);
        x.write(0, 1);
        x.was(1, 1);
        x.drift(96);
        x.go(0);
        x.come(0);
        x.turn(0, 5);
        x.turn(1, 5);
        x.hang(1);
        x.rain(1);
        x.keep(1);
        int[] second = state(x);
        x.quarter(50);
        Checks.due("goBack(0)", x.goBack(0), 1);
        Checks.row("all of section 2", state(x), kept);
        Checks.due("THE SEED", x.seed(1), 99);
        Checks.row("told(14), (15), (16)", new int[] {x.told(14), x.told(15), x.told(16)}, 1, 1, 0);
        x.quarter(9);
        Checks.due("told(16)", x.told(16), 1);
        Checks.due("goBack(1)", x.goBack(1), 1);
        Checks.due("told(16)", x.told(16), 0);
        Checks.row("all of section 2", state(x), second);
        Checks.due("goBack(0) again", x.goBack(0), 1);
        Checks.row("all of section 2", state(x), kept);
        Checks.due("undo()", x.undo(), NOT);
    }

    private static void promise44Anew() {
        BellRope x = Checks.open("b0 0 0;d1 20 0;");
        x.keep(0);
        x.keep(1);
        Checks.tell(x, "b9");
        Checks.due("goBack(0) behind a fault", x.goBack(0), 1);
        Checks.tell(x, "b0 0 0;");
        Checks.row("goBack of another inn", new int[] {x.goBack(0), x.goBack(1)}, NOT, NOT);
        x.keep(1);
        Checks.row("goBack", new int[] {x.goBack(0), x.goBack(1)}, NOT, 1);
        x.inn();
        Checks.row("goBack behind no inn", new int[] {x.goBack(0), x.goBack(1)}, NOT, NOT);
    }

    /** All of section 2 that can be asked for. */
    private static int[] state(BellRope x) {
        int[] row = new int[8 + 4 + 80];
        int[] asked = {6, 7, 8, 9, 10, 11, 12, 13};
        for (int i = 0; i < 8; i++) {
            row[i] = x.told(asked[i]);
        }
        for (int i = 0; i < 4; i++) {
            row[8 + i] = x.drinker(i / 2, 4 + i % 2);
        }
        for (int i = 0; i < 80; i++) {
            row[12 + i] = x.logged(i / 2, i % 2);
        }
        return row;
    }
}

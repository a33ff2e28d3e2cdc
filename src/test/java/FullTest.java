import java.util.ArrayList;
import java.util.List;
import java.util.function.Consumer;

/** What is full: 40 QUARTERS in THE LOG, 16 that can be undone, 6 WAS, 15 entries of THE BOOK; 240 letters are in TextEdgesTest. */
public final class FullTest {
    private static final int NONE = BellRope.NONE;
    private static final int NOT = BellRope.NOT;
    private static final int FULL = BellRope.FULL;

    public static void main(String[] args) {
        logKeeps40();
        logOfManyAtOnce();
        logIsMistakenIn40();
        logIsPaidIn40();
        logGoesWithUndo();
        undoneOneByOne();
        undoneAgain();
        eachDeedIsUndone();
        refusedIsNotUndone();
        oldestIsLost();
        sixteenOfAllKinds();
        sixWas();
        fifteenEntries();
        quartersAbove90000();
        Checks.end();
    }

    private static void logKeeps40() {
        Checks.part("THE LOG keeps the latest 40 QUARTERS");
        for (int n : new int[] {1, 2, 39, 40, 41, 42, 79, 80, 81, 96, 121}) {
            BellRope x = Checks.open("b1 1 0;d1 20 0;d2 20 0;d3 20 0;d5 20 0;s5 3;", 0, 1, 2, 3);
            List<int[]> want = new ArrayList<>();
            for (int i = 0; i < n; i++) {
                int paid = x.told(11);
                int heard = x.quarter(1);
                want.add(0, new int[] {heard, x.told(11) - paid});
            }
            Checks.due("told(12) behind " + n, x.told(12), Math.min(n, 40));
            for (int i = 0; i < 42; i++) {
                int[] row = i < Math.min(n, 40) ? want.get(i) : new int[] {NONE, NONE};
                Checks.row("logged(" + i + ") behind " + n, new int[] {x.logged(i, 0), x.logged(i, 1)}, row);
            }
        }
    }

    private static void logOfManyAtOnce() {
        Checks.part("THE LOG of many QUARTERS at once");
        for (int n : new int[] {39, 40, 41, 95, 96}) {
            BellRope x = Checks.open(Probe.BUSY, 0, 1, 2);
            BellRope y = Checks.open(Probe.BUSY, 0, 1, 2);
            x.quarter(n);
            for (int i = 0; i < n; i++) {
                y.quarter(1);
            }
            for (int i = 0; i < 41; i++) {
                Checks.row("logged(" + i + ") behind " + n, new int[] {x.logged(i, 0), x.logged(i, 1)}, y.logged(i, 0), y.logged(i, 1));
            }
        }
    }

    private static void logIsMistakenIn40() {
        Checks.part("MISTAKEN: of the latest 40");
        BellRope x = Checks.open("b0 9 0;d1 20 0;n1;s0 2;", 0);
        x.quarter(39);
        Checks.due("mistaken() of 0 .. 38", x.mistaken(), 2);
        x.quarter(1);
        Checks.due("mistaken() of 0 .. 39", x.mistaken(), 2);
        x.quarter(1);
        Checks.due("mistaken() of 1 .. 40", x.mistaken(), 1);
        x.quarter(1);
        Checks.due("mistaken() of 2 .. 41", x.mistaken(), 0);
        x.treat(0, 20);
        x.hang(2);
        x.quarter(2);
        Checks.due("mistaken() of the latest", x.mistaken(), 2);
    }

    private static void logIsPaidIn40() {
        Checks.part("WIDOWS: QUARTERS of THE LOG, as the one ahead of it in THE LOG");
        BellRope x = Checks.open("b0 0 0;d1 20 0;", 0);
        // HEARD 1, 1, then none
        x.quarter(2);
        x.go(0);
        x.quarter(37);
        Checks.due("widows(1) of 0 .. 38", x.widows(1), 1);
        x.quarter(1);
        Checks.due("widows(1) of 0 .. 39", x.widows(1), 1);
        x.quarter(1);
        Checks.due("widows(1) of 1 .. 40: the one ahead is lost", x.widows(1), 1);
        x.quarter(1);
        Checks.due("widows(1) of 2 .. 41", x.widows(1), 0);
        BellRope y = Checks.open("b0 0 0;d4 20 0;", 0);
        y.quarter(45);
        Checks.due("widows(1) of 8, 12 .. 44, the latest", y.widows(1), 10);
        y.quarter(4);
        Checks.due("widows(1) of 12, 16 .. 48, the latest", y.widows(1), 10);
        y.quarter(3);
        Checks.due("widows(1) of 12, the oldest, .. 48", y.widows(1), 10);
    }

    private static void logGoesWithUndo() {
        Checks.part("THE LOG is of section 2");
        BellRope x = Checks.open("b0 0 0;d1 20 0;", 0);
        x.quarter(15);
        x.quarter(45);
        Checks.row("told(12), logged(0, 1)", new int[] {x.told(12), x.logged(0, 1)}, 40, 0);
        x.undo();
        Checks.row("told(12), logged", new int[] {x.told(12), x.logged(0, 1), x.logged(14, 1), x.logged(15, 1)}, 15, 1, 1, NONE);
        x.undo();
        Checks.row("told(12), logged", new int[] {x.told(12), x.logged(0, 1)}, 0, NONE);
    }

    private static void undoneOneByOne() {
        Checks.part("16 at most are kept");
        for (int n : new int[] {1, 15, 16, 17, 18, 32, 33, 40}) {
            BellRope x = Checks.open("b0 0 0;d1 20 0;");
            for (int i = 0; i < n; i++) {
                x.turn(0, i % 40);
                Checks.due("told(16)", x.told(16), Math.min(i + 1, 16));
            }
            int kept = Math.min(n, 16);
            for (int i = 1; i <= kept; i++) {
                Checks.due("undo() " + i + " of " + n, x.undo(), kept - i);
                Checks.due("TURN behind undo() " + i + " of " + n, x.drinker(0, 5), Math.max(0, n - i - 1));
            }
            Checks.row("undo() of none", new int[] {x.undo(), x.undo(), x.told(16)}, NOT, NOT, 0);
        }
    }

    private static void undoneAgain() {
        Checks.part("16 at most are kept, again and again");
        BellRope x = Checks.open("b0 0 0;d1 20 0;");
        for (int round = 0; round < 4; round++) {
            for (int i = 0; i < 17; i++) {
                x.hang(round * 17 + i);
            }
            Checks.row("told(16), (10)", new int[] {x.told(16), x.told(10)}, 16, round * 17 + 16);
            for (int i = 15; i >= 10; i--) {
                Checks.row("undo(), told(10)", new int[] {x.undo(), x.told(10)}, i, round * 17 + i);
            }
        }
    }

    private static void deeds(List<String> names, List<Consumer<BellRope>> deeds) {
        names.addAll(List.of("quarter", "come", "go", "treat", "turn", "hang", "rain", "drift"));
        deeds.add(x -> x.quarter(7));
        deeds.add(x -> Checks.due("come(2)", x.come(2) >= 0 ? 1 : 0, 1));
        deeds.add(x -> Checks.due("go(1)", x.go(1) >= 0 ? 1 : 0, 1));
        deeds.add(x -> x.treat(1, 2));
        deeds.add(x -> x.turn(1, 1));
        deeds.add(x -> x.hang(0));
        deeds.add(x -> x.rain(1));
        deeds.add(x -> x.drift(96));
    }

    /** 2 is not IN, 1 is. */
    private static BellRope evening() {
        BellRope x = Probe.busy();
        x.go(2);
        return x;
    }

    private static void eachDeedIsUndone() {
        List<String> names = new ArrayList<>();
        List<Consumer<BellRope>> deeds = new ArrayList<>();
        deeds(names, deeds);
        for (int i = 0; i < names.size(); i++) {
            Checks.part("UNDONE: all of section 2 is as ahead of " + names.get(i) + "()");
            BellRope x = evening();
            int kept = x.told(16);
            deeds.get(i).accept(x);
            Checks.due("told(16)", x.told(16), kept + 1);
            Checks.due("undo()", x.undo(), kept);
            // THE SEED stays, drift() has drawn
            BellRope y = evening();
            Checks.due("THE SEED of a drift() alone is another", x.seed(1) != y.seed(1) ? 1 : 0, i == 7 ? 1 : 0);
            Probe.same("undo() of " + names.get(i), x, y);
        }
    }

    private static void refusedIsNotUndone() {
        Checks.part("UNDONE: the latest that was not refused");
        BellRope x = evening();
        int kept = x.told(16);
        int[] refused = {x.quarter(0), x.quarter(97), x.come(0), x.come(3), x.go(2), x.go(-1), x.treat(0, 0), x.treat(3, 1), x.turn(0, 40),
            x.turn(-1, 0), x.hang(-1), x.hang(97), x.rain(3), x.drift(0), x.drift(97)};
        for (int answer : refused) {
            Checks.due(answer < NONE, "not refused: " + answer);
        }
        Checks.due("told(16)", x.told(16), kept);
        x.undo();
        Checks.row("the go(2) ahead of them is undone", new int[] {x.told(16), x.told(7)}, kept - 1, 7);
        Checks.part("what changes nothing can be undone, too");
        x.hang(x.told(10));
        x.rain(x.told(13));
        x.turn(0, x.drinker(0, 5));
        x.treat(2, 20);
        x.treat(2, 20);
        Checks.due("told(16)", x.told(16), kept + 4);
    }

    private static void oldestIsLost() {
        Checks.part("the oldest are lost");
        BellRope x = Checks.open("b0 0 0;d1 20 0;d1 20 0;");
        x.come(0);
        x.come(1);
        for (int i = 0; i < 15; i++) {
            x.quarter(1);
        }
        // 17: the first is lost
        for (int i = 15; i >= 0; i--) {
            Checks.due("undo()", x.undo(), i);
        }
        Checks.row("who is IN, undo()", new int[] {x.told(7), x.undo(), x.told(7)}, 1, NOT, 1);
    }

    private static void sixteenOfAllKinds() {
        Checks.part("16 of all kinds");
        List<String> names = new ArrayList<>();
        List<Consumer<BellRope>> deeds = new ArrayList<>();
        deeds(names, deeds);
        for (int first = 0; first < names.size(); first++) {
            BellRope x = evening();
            BellRope y = evening();
            x.keep(0);
            y.keep(0);
            deeds.get(first).accept(x);
            for (int i = 0; i < 15; i++) {
                x.hang(i);
            }
            Checks.due("told(16)", x.told(16), 16);
            for (int i = 0; i < 16; i++) {
                x.undo();
            }
            x.seed(3);
            y.seed(3);
            Probe.same(names.get(first) + "() is not the sixteenth", x, y);
        }
    }

    private static void sixWas() {
        Checks.part("WAS: 6 at most");
        BellRope x = Checks.open("b0 0 0;d1 20 0;d2 20 0;");
        for (int i = 1; i <= 6; i++) {
            Checks.due("was(1, 1)", x.was(i == 6 ? 2 : 1, 1), i);
        }
        Checks.row("could(0), (1)", new int[] {x.could(0), x.could(1)}, 1, 1);
        Checks.row("was() of a seventh", new int[] {x.was(1, 1), x.was(0, 0), x.was(95, 16)}, FULL, FULL, FULL);
        Checks.row("told(14), could(0)", new int[] {x.told(14), x.could(0)}, 6, 1);
        Checks.row("tear(), was(), told(14)", new int[] {x.tear(), x.was(1, 0), x.told(14), x.could(0)}, 6, 1, 1, 2);
        Checks.part("WAS: the sixth counts");
        x.tear();
        for (int i = 1; i <= 5; i++) {
            x.was(1, 1);
        }
        Checks.due("could(0) of five", x.could(0), 2);
        x.was(1, 0);
        Checks.row("could(0), muffled() of six", new int[] {x.could(0), x.muffled()}, 0, 0);
    }

    private static void fifteenEntries() {
        Checks.part("THE BOOK: 15 at most");
        BellRope x = Checks.open("b0 0 0;d1 20 0;d2 20 0;");
        for (int i = 1; i <= 14; i++) {
            Checks.due("write(0, 0)", x.write(i % 2, 0), i);
        }
        Checks.due("judge() of fourteen", x.judge(), NONE);
        Checks.due("write(1, 20)", x.write(1, 20), 15);
        Checks.due("judge(): the fifteenth counts", x.judge(), 14);
        Checks.row("write() of a sixteenth", new int[] {x.write(0, 1), x.write(1, 20), x.write(0, 0)}, FULL, FULL, FULL);
        Checks.row("told(15), judge()", new int[] {x.told(15), x.judge()}, 15, 14);
        Checks.row("tear(), write(), told(15), judge()", new int[] {x.tear(), x.write(0, 0), x.told(15), x.judge()}, 15, 1, 1, NONE);
    }

    /** Beyond the 512 calls that are promised, but the document tells this bound. */
    private static void quartersAbove90000() {
        Checks.part("FULL: QUARTERS are above 90000 as it is called (n may pass that)");
        BellRope x = Checks.open("b0 0 0;d1 20 0;", 0);
        for (int i = 0; i < 937; i++) {
            x.quarter(96);
        }
        x.quarter(47);
        Checks.row("quarter(96) at 89999", new int[] {x.told(6), x.quarter(96), x.told(6)}, 89999, 0, 90095);
        Checks.row("quarter(1), (96), drift(1), (96) above", new int[] {x.quarter(1), x.quarter(96), x.drift(1), x.drift(96)}, FULL, FULL, FULL, FULL);
        Checks.row("quarter(0), (97), drift(0), (97) above", new int[] {x.quarter(0), x.quarter(97), x.drift(0), x.drift(97)},
            BellRope.OUTSIDE, BellRope.OUTSIDE, BellRope.OUTSIDE, BellRope.OUTSIDE);
        x.undo();
        x.quarter(1);
        Checks.row("drift(96) at 90000", new int[] {x.told(6), x.drift(96) >= 0 ? 1 : 0, x.told(6)}, 90000, 1, 90096);
        x.undo();
        Checks.row("quarter(1) at 90000, at 90001", new int[] {x.quarter(1), x.told(6), x.quarter(1), x.drift(1), x.told(6)}, 0, 90001, FULL, FULL, 90001);
    }
}

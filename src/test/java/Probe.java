import java.util.ArrayList;
import java.util.List;
import java.util.function.Consumer;
import java.util.function.Supplier;

/** Objects to start from, and all that an object can be asked for; no object comes to 512 calls by it. */
final class Probe {
    static final String BUSY = "b1 1 42;d1 20 50;d1 15 90;d2 20 10;s4 3;g8 3;g20 9;n2;n3;";
    static final String SEVEN = "b0 0 0;" + "d1 20 50;".repeat(7) + "g0 0;".repeat(6) + "n1;n2;n3;n4;n5;";

    private Probe() {
    }

    /** An evening that has gone on, and a text that is not told yet: nothing of it is as in a new object. */
    static BellRope busy() {
        BellRope x = evening();
        Checks.feed(x, "b1 2");
        return x;
    }

    static BellRope evening() {
        BellRope x = Checks.open(BUSY, 0, 1);
        x.seed(39);
        x.quarter(3);
        x.keep(0);
        x.turn(2, 1);
        x.drift(9);
        x.keep(1);
        x.quarter(94);
        x.rain(2);
        x.hang(3);
        x.turn(0, 1);
        x.quarter(2);
        x.treat(1, 1);
        x.was(2, 3);
        x.was(4, 2);
        x.write(0, x.drinker(0, 4));
        x.write(1, x.drinker(1, 4));
        return x;
    }

    static BellRope seven() {
        return Checks.open(SEVEN);
    }

    /** The calls must leave all as it is with a twin that was not called. */
    static void unchanged(String calls, Supplier<BellRope> state, Consumer<BellRope> called) {
        BellRope x = state.get();
        called.accept(x);
        same(calls + " changed something", x, state.get());
    }

    static void same(String what, BellRope x, BellRope y) {
        Checks.due("fault(), " + what, x.fault(), y.fault());
        sameButFault(what, x, y);
    }

    static void sameButFault(String what, BellRope x, BellRope y) {
        List<Integer> got = all(x);
        List<Integer> want = all(y);
        Checks.due(got.equals(want), what + ": " + got + ", due is " + want);
    }

    /** Asks for all but fault(), THE SEED, THE TEXT, what can be undone and the images too: the object is used up. */
    private static List<Integer> all(BellRope x) {
        List<Integer> row = new ArrayList<>();
        told(x, row);
        tried(x, row);
        row.add(x.seed(5));
        for (int i = 0; i < 17; i++) {
            row.add(x.undo());
            evening(x, row);
        }
        for (int i = 0; i < 2; i++) {
            row.add(x.goBack(i));
            evening(x, row);
            row.add(x.seed(5));
        }
        row.add(x.inn());
        row.add(x.fault());
        return row;
    }

    private static void told(BellRope x, List<Integer> row) {
        for (int what = 0; what <= 16; what++) {
            row.add(x.told(what));
        }
        for (int i = 0; i < 21; i++) {
            row.add(x.drinker(i / 7, i % 7));
        }
        for (int i = 0; i < 4; i++) {
            row.add(x.goer(i / 2, i % 2));
        }
        row.add(x.signal(0));
        row.add(x.signal(1));
        for (int i : new int[] {0, 1, 20, 39}) {
            row.add(x.logged(i, 0));
            row.add(x.logged(i, 1));
        }
    }

    private static void tried(BellRope x, List<Integer> row) {
        int[] answers = {x.strikes(0), x.strikes(1), x.strikes(50), x.strikes(191), x.when(2), x.hour(192), x.noon(),
            x.late(1), x.best(1), x.alone(0), x.given(9), x.mistaken(), x.vespers(3, 1), x.ship(9), x.widows(1), x.odds(1),
            x.most(), x.round(), x.share(0), x.share(1), x.could(0), x.could(1), x.listen(), x.muffled(), x.judge()};
        for (int answer : answers) {
            row.add(answer);
        }
    }

    /** What section 2 tells. */
    private static void evening(BellRope x, List<Integer> row) {
        int[] answers = {x.told(6), x.told(7), x.told(8), x.told(10), x.told(11), x.told(13), x.widows(1),
            x.drinker(0, 4), x.drinker(1, 4), x.drinker(2, 4), x.drinker(0, 5), x.drinker(2, 5)};
        for (int answer : answers) {
            row.add(answer);
        }
    }
}

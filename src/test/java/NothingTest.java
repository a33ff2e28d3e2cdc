/** What answers NONE, 0 or NOT where there is nothing: no INN, an INN of nobody, nobody IN, no QUARTER gone. */
public final class NothingTest {
    private static final int NONE = BellRope.NONE;
    private static final int UNKNOWN = BellRope.UNKNOWN;
    private static final int NOT = BellRope.NOT;

    public static void main(String[] args) {
        noInn();
        noInnAsks();
        noInnDoes();
        noInnIsKept();
        innOfNobody();
        innOfNobodyGoesOn();
        nobodyIn();
        noQuarterGone();
        noPints();
        nothingKnown();
        nothingToUndo();
        noImage();
        Checks.end();
    }

    private static int[] told(BellRope x) {
        int[] row = new int[17];
        for (int what = 0; what <= 16; what++) {
            row[what] = x.told(what);
        }
        return row;
    }

    private static void noInn() {
        Checks.part("promise 1: a new object: no INN");
        BellRope x = new BellRope();
        Checks.row("told(0 .. 16)", told(x), 0, 0, 0, 0, 0, 0, 0, 0, 0, 0, 0, 0, 0, 0, 0, 0, 0);
        Checks.row("fault(), seed()", new int[] {x.fault(), x.seed(0)}, NONE, 0);
        Checks.row("drinker, goer, signal", new int[] {x.drinker(0, 0), x.goer(0, 0), x.signal(0)}, UNKNOWN, UNKNOWN, UNKNOWN);
    }

    private static void noInnAsks() {
        Checks.part("no INN: what is asked");
        BellRope x = new BellRope();
        Checks.row("mistaken(), widows(1), most(), round(), judge(), tear(), logged(0, 0), (0, 1)",
            new int[] {x.mistaken(), x.widows(1), x.most(), x.round(), x.judge(), x.tear(), x.logged(0, 0), x.logged(0, 1)},
            0, 0, NONE, 1, NONE, 0, NONE, NONE);
        Checks.row("share(0), alone(0), write(0, 0)", new int[] {x.share(0), x.alone(0), x.write(0, 0)}, UNKNOWN, UNKNOWN, UNKNOWN);
        int[] refused = {x.strikes(0), x.when(1), x.hour(0), x.noon(), x.late(1), x.best(0), x.best(1), x.given(1), x.vespers(1, 0), x.vespers(1, 1),
            x.ship(1), x.odds(0), x.was(0, 0), x.could(0), x.could(1), x.could(2), x.could(3), x.listen(), x.muffled()};
        for (int i = 0; i < refused.length; i++) {
            Checks.due("the call " + i + " that needs an INN", refused[i], NOT);
        }
    }

    private static void noInnDoes() {
        Checks.part("no INN: what is done");
        BellRope x = new BellRope();
        Checks.row("quarter, drift, hang, rain, undo", new int[] {x.quarter(1), x.drift(1), x.hang(0), x.rain(0), x.undo()}, NOT, NOT, NOT, NOT, NOT);
        Checks.row("come, go, treat, turn", new int[] {x.come(0), x.go(0), x.treat(0, 1), x.turn(0, 0)}, UNKNOWN, UNKNOWN, UNKNOWN, UNKNOWN);
        Probe.same("what was refused changed something", x, new BellRope());
    }

    private static void noInnIsKept() {
        Checks.part("no INN: images, THE SEED");
        BellRope x = new BellRope();
        Checks.row("seed, keep, seed, goBack, seed", new int[] {x.seed(8), x.keep(0), x.seed(9), x.goBack(0), x.seed(1), x.goBack(1)}, 0, 1, 8, 1, 8, NOT);
        Checks.row("quarter, told(6)", new int[] {x.quarter(1), x.told(6)}, NOT, 0);
        Checks.tell(x, "b0 0 0;");
        Checks.row("goBack in an INN", new int[] {x.goBack(0), x.goBack(1)}, NOT, NOT);
    }

    private static void innOfNobody() {
        Checks.part("an INN without DRINKERS, GOERS, SIGNALS");
        BellRope x = Checks.open("b1 9 127;");
        Checks.row("told(0 .. 16)", told(x), 1, 9, 0, 0, 0, 0, 0, 0, 0, 1, 0, 0, 0, 0, 0, 0, 0);
        Checks.row("drinker, goer, signal, alone, share, come, go, treat, turn, write",
            new int[] {x.drinker(0, 0), x.goer(0, 0), x.signal(0), x.alone(0), x.share(0), x.come(0), x.go(0), x.treat(0, 1), x.turn(0, 0), x.write(0, 0)},
            UNKNOWN, UNKNOWN, UNKNOWN, UNKNOWN, UNKNOWN, UNKNOWN, UNKNOWN, UNKNOWN, UNKNOWN, UNKNOWN);
        Checks.row("strikes, when, hour, noon, late, best, given, mistaken",
            new int[] {x.strikes(0), x.strikes(191), x.when(1), x.hour(192), x.noon(), x.late(1), x.best(0), x.best(1), x.given(192), x.mistaken()},
            0, 0, NONE, 0, NONE, 0, 1, 0, 0, 0);
        Checks.row("vespers, ship, widows, odds, most, round",
            new int[] {x.vespers(1, 0), x.vespers(1, 1), x.ship(1), x.widows(99), x.odds(0), x.odds(1), x.most(), x.round()},
            NONE, NONE, NONE, 0, 1000000, 0, NONE, 1);
        Checks.row("could, listen, muffled", new int[] {x.could(0), x.could(1), x.could(2), x.could(3), x.listen(), x.muffled()}, 1, 0, 0, 0, NONE, 1023);
        x.was(0, 0);
        Checks.row("could, listen, muffled of 0", new int[] {x.could(0), x.could(1), x.listen(), x.muffled()}, 1, 0, NONE, 1023);
        x.was(0, 1);
        Checks.row("could, listen, muffled of 1", new int[] {x.could(0), x.could(1), x.could(2), x.could(3), x.listen(), x.muffled()}, 0, NONE, 0, 0, NONE, 0);
    }

    private static void innOfNobodyGoesOn() {
        Checks.part("an INN without DRINKERS goes on");
        BellRope x = Checks.open("b1 9 0;");
        Checks.row("quarter, drift", new int[] {x.quarter(1), x.drift(96), x.told(6), x.told(8), x.told(11), x.logged(0, 0), x.logged(0, 1)}, 0, 0, 97, 0, 0, 0, 0);
        Checks.row("undo", new int[] {x.undo(), x.undo(), x.undo()}, 1, 0, NOT);
    }

    private static void nobodyIn() {
        Checks.part("nobody is IN");
        BellRope x = Checks.open("b1 0 0;d1 20 100;d1 20 100;g0 0;g95 0;n1;");
        Checks.row("told(7), quarter, told(8), told(11)", new int[] {x.told(7), x.quarter(2), x.told(8), x.told(11)}, 0, 0, 0, 0);
        Checks.row("strikes, when, noon, late, best, alone, given, ship", new int[] {x.strikes(0), x.when(1), x.noon(), x.late(1), x.best(0), x.best(1), x.alone(0), x.given(192), x.ship(1)},
            0, NONE, NONE, 3, 1, 2, 0, 0, NONE);
        Checks.row("odds, most, round, share, widows, mistaken", new int[] {x.odds(0), x.odds(1), x.most(), x.round(), x.share(0), x.widows(9), x.mistaken()},
            1000000, 0, NONE, 1, 0, 0, 0);
        Checks.row("drinker", new int[] {x.drinker(0, 3), x.drinker(0, 4), x.drinker(0, 5), x.drinker(0, 6)}, 0, 0, 0, 0);
    }

    private static void noQuarterGone() {
        Checks.part("THE LOG is empty");
        BellRope x = Checks.open("b1 0 0;d1 20 100;n1;", 0);
        Checks.row("told(6), (12), logged, mistaken, widows", new int[] {x.told(6), x.told(12), x.logged(0, 0), x.logged(0, 1), x.mistaken(), x.widows(99)},
            0, 0, NONE, NONE, 0, 0);
        x.quarter(1);
        Checks.row("one is gone", new int[] {x.told(6), x.told(12), x.logged(0, 0), x.logged(0, 1), x.logged(1, 0), x.mistaken(), x.widows(99)},
            1, 1, 2, 1, NONE, 1, 198);
        x.undo();
        Checks.row("undone", new int[] {x.told(6), x.told(12), x.logged(0, 0), x.logged(0, 1), x.mistaken(), x.widows(99)}, 0, 0, NONE, NONE, 0, 0);
    }

    private static void noPints() {
        Checks.part("none has any PINTS");
        BellRope x = Checks.open("b1 0 0;d1 20 100;d2 20 0;", 0, 1);
        Checks.row("most, share, judge", new int[] {x.most(), x.share(0), x.share(1), x.judge()}, NONE, 0, 0, NONE);
        x.write(1, 0);
        Checks.due("judge() of an entry of 0", x.judge(), NONE);
        x.write(0, 1);
        Checks.due("judge() of an entry of 1", x.judge(), 1);
        Checks.row("treat() of none", new int[] {x.treat(0, 1), x.treat(0, 20)}, 0, 0);
    }

    private static void nothingKnown() {
        Checks.part("nothing known, no BOOK");
        BellRope x = Checks.open("b1 0 0;d1 20 100;d2 20 0;");
        Checks.row("told(14), (15), tear, could, muffled, judge", new int[] {x.told(14), x.told(15), x.tear(), x.could(0), x.could(1), x.could(2), x.could(3), x.muffled(), x.judge()},
            0, 0, 0, 4, 0, 0, 0, 1023, NONE);
        Checks.due("tear() can not be undone", x.undo(), NOT);
    }

    private static void nothingToUndo() {
        Checks.part("undo(): NOT: none");
        BellRope x = Checks.open("b1 0 0;d1 20 100;");
        Checks.row("undo, come, undo, undo", new int[] {x.undo(), x.come(0), x.undo(), x.undo(), x.told(7)}, NOT, 1, 0, NOT, 0);
        x.come(0);
        x.keep(1);
        Checks.row("behind keep", new int[] {x.told(16), x.undo(), x.told(7)}, 0, NOT, 1);
        x.go(0);
        x.goBack(1);
        Checks.row("behind goBack", new int[] {x.told(16), x.undo(), x.told(7)}, 0, NOT, 1);
        x.go(0);
        x.inn();
        Checks.row("behind inn", new int[] {x.told(16), x.undo()}, 0, NOT);
    }

    private static void noImage() {
        Checks.part("goBack(): NOT: it was not kept");
        BellRope x = Checks.open("b1 0 0;d1 20 100;", 0);
        Checks.row("goBack of none", new int[] {x.goBack(0), x.goBack(1), x.told(16)}, NOT, NOT, 1);
        Checks.row("goBack of one", new int[] {x.keep(1), x.goBack(0), x.goBack(1)}, 1, NOT, 1);
        Checks.row("a FAULT leaves it", new int[] {Checks.tell(x, "x"), x.goBack(0), x.goBack(1)}, -11, NOT, 1);
        Checks.row("an INN does not", new int[] {Checks.tell(x, "b0 0 0;"), x.goBack(0), x.goBack(1)}, 0, NOT, NOT);
    }
}

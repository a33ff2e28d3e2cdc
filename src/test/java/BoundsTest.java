import java.util.ArrayList;
import java.util.List;
import java.util.function.Supplier;

/**
 * The bounds of each argument of each call: on each bound, one beyond it, the least and the greatest int, with an INN
 * and without; of several REFUSALS the first; and what is refused changes nothing.
 */
public final class BoundsTest {
    private static final int NONE = BellRope.NONE;
    private static final int UNKNOWN = BellRope.UNKNOWN;
    private static final int OUTSIDE = BellRope.OUTSIDE;
    private static final int NOT = BellRope.NOT;
    private static final int FULL = BellRope.FULL;
    private static final int MOST = Integer.MAX_VALUE;
    /** It answers without an INN as well. */
    private static final int ANSWERS = 0;

    private interface Call {
        int of(BellRope x, int n);
    }

    private static Supplier<BellRope> state = Probe::busy;

    public static void main(String[] args) {
        constants();
        inn();
        drinkers();
        goersAndSignals();
        log();
        done();
        tried();
        heard();
        drawsAndImages();
        unknownFirst();
        outsideFirst();
        notFirst();
        Checks.end();
    }

    private static void constants() {
        Checks.part("REFUSALS");
        Checks.row("the face's constants", new int[] {NONE, UNKNOWN, OUTSIDE, NOT, FULL}, -1, -1000000001, -1000000002, -1000000003, -1000000004);
    }

    private static List<Integer> beyond(int least, int most) {
        List<Integer> row = new ArrayList<>(List.of(Integer.MIN_VALUE, least - 1));
        if (most < MOST) {
            row.add(most + 1);
            row.add(MOST);
        }
        return row;
    }

    /** without: what it answers without an INN within its bounds. */
    private static void bounds(String call, int least, int most, int refusal, int without, Call of) {
        Checks.part(call + ", " + least + " .. " + most);
        for (int n : new int[] {least, most}) {
            int answer = of.of(state.get(), n);
            Checks.due(answer >= NONE, "was refused with " + answer + " at " + n);
            int none = of.of(new BellRope(), n);
            Checks.due(without == ANSWERS ? none >= NONE : none == without, "answered " + none + " without an inn at " + n);
        }
        int outside = without == UNKNOWN ? UNKNOWN : refusal;
        for (int n : beyond(least, most)) {
            Checks.due(call + " of " + n, of.of(state.get(), n), refusal);
            Checks.due(call + " of " + n + " without an inn", of.of(new BellRope(), n), outside);
            Probe.unchanged(call + " of " + n, state, x -> of.of(x, n));
        }
        Probe.unchanged(call + " beyond its bounds, without an inn", BellRope::new, x -> {
            for (int n : beyond(least, most)) {
                of.of(x, n);
            }
            if (without != ANSWERS) {
                of.of(x, least);
            }
        });
    }

    private static void inn() {
        bounds("promise 2: feed(letter)", 0, 255, OUTSIDE, ANSWERS, (x, n) -> x.feed(n));
        bounds("promise 5: told(what)", 0, 16, OUTSIDE, ANSWERS, (x, n) -> x.told(n));
        bounds("promise 6: drinker(0, what)", 0, 6, OUTSIDE, UNKNOWN, (x, n) -> x.drinker(0, n));
        bounds("promise 6: drinker(2, what)", 0, 6, OUTSIDE, UNKNOWN, (x, n) -> x.drinker(2, n));
        bounds("promise 7: goer(0, what)", 0, 1, OUTSIDE, UNKNOWN, (x, n) -> x.goer(0, n));
        bounds("promise 7: goer(1, what)", 0, 1, OUTSIDE, UNKNOWN, (x, n) -> x.goer(1, n));
    }

    /** A DRINKER that there is not: of three, and of seven. */
    private static void drinkers() {
        drinkersOf(2);
        state = Probe::seven;
        drinkersOf(6);
        bounds("promise 11: come(d)", 0, 6, UNKNOWN, UNKNOWN, (x, n) -> x.come(n));
        state = () -> Checks.open(Probe.SEVEN, 0, 1, 2, 3, 4, 5, 6);
        bounds("promise 12: go(d)", 0, 6, UNKNOWN, UNKNOWN, (x, n) -> x.go(n));
        state = Probe::busy;
    }

    private static void drinkersOf(int last) {
        bounds("promise 6: drinker(d, 0)", 0, last, UNKNOWN, UNKNOWN, (x, n) -> x.drinker(n, 0));
        bounds("promise 6: drinker(d, 6)", 0, last, UNKNOWN, UNKNOWN, (x, n) -> x.drinker(n, 6));
        bounds("promise 13: treat(d, 1)", 0, last, UNKNOWN, UNKNOWN, (x, n) -> x.treat(n, 1));
        bounds("promise 14: turn(d, 1)", 0, last, UNKNOWN, UNKNOWN, (x, n) -> x.turn(n, 1));
        bounds("promise 34: share(d)", 0, last, UNKNOWN, UNKNOWN, (x, n) -> x.share(n));
        bounds("promise 39: write(d, 1)", 0, last, UNKNOWN, UNKNOWN, (x, n) -> x.write(n, 1));
    }

    private static void goersAndSignals() {
        goersAndSignalsOf(1, 1);
        state = Probe::seven;
        goersAndSignalsOf(5, 4);
        state = Probe::busy;
    }

    private static void goersAndSignalsOf(int lastGoer, int lastSignal) {
        bounds("promise 7: goer(g, 0)", 0, lastGoer, UNKNOWN, UNKNOWN, (x, n) -> x.goer(n, 0));
        bounds("promise 7: goer(g, 1)", 0, lastGoer, UNKNOWN, UNKNOWN, (x, n) -> x.goer(n, 1));
        bounds("promise 8: signal(s)", 0, lastSignal, UNKNOWN, UNKNOWN, (x, n) -> x.signal(n));
        bounds("promise 25: alone(g)", 0, lastGoer, UNKNOWN, UNKNOWN, (x, n) -> x.alone(n));
    }

    /** i is never OUTSIDE: NONE. */
    private static void log() {
        bounds("promise 9: logged(0, what)", 0, 1, OUTSIDE, ANSWERS, (x, n) -> x.logged(0, n));
        bounds("promise 9: logged(-1, what)", 0, 1, OUTSIDE, ANSWERS, (x, n) -> x.logged(-1, n));
        bounds("promise 9: logged(40, what)", 0, 1, OUTSIDE, ANSWERS, (x, n) -> x.logged(40, n));
        Checks.part("promise 9: logged(i, 0)");
        BellRope x = Checks.open("b0 0 0;d1 20 0;", 0);
        x.quarter(2);
        for (int i : new int[] {Integer.MIN_VALUE, -1, 2, 3, 39, 40, 41, MOST}) {
            Checks.row("HEARD, RUNG of " + i, new int[] {x.logged(i, 0), x.logged(i, 1)}, NONE, NONE);
        }
        Checks.row("HEARD of the two", new int[] {x.logged(0, 0), x.logged(1, 0)}, 1, 1);
    }

    private static void done() {
        bounds("promise 10: quarter(n)", 1, 96, OUTSIDE, NOT, (x, n) -> x.quarter(n));
        bounds("promise 13: treat(0, n)", 1, 20, OUTSIDE, UNKNOWN, (x, n) -> x.treat(0, n));
        bounds("promise 14: turn(0, t)", 0, 39, OUTSIDE, UNKNOWN, (x, n) -> x.turn(0, n));
        bounds("promise 15: hang(n)", 0, 96, OUTSIDE, NOT, (x, n) -> x.hang(n));
        bounds("promise 16: rain(r)", 0, 2, OUTSIDE, NOT, (x, n) -> x.rain(n));
        bounds("promise 17: drift(n)", 1, 96, OUTSIDE, NOT, (x, n) -> x.drift(n));
    }

    private static void tried() {
        bounds("promise 19: strikes(n)", 0, 191, OUTSIDE, NOT, (x, n) -> x.strikes(n));
        bounds("promise 20: when(k)", 1, 16, OUTSIDE, NOT, (x, n) -> x.when(n));
        bounds("promise 21: hour(n)", 0, 192, OUTSIDE, NOT, (x, n) -> x.hour(n));
        bounds("promise 23: late(k)", 1, 16, OUTSIDE, NOT, (x, n) -> x.late(n));
        bounds("promise 24: best(what)", 0, 1, OUTSIDE, NOT, (x, n) -> x.best(n));
        bounds("promise 26: given(n)", 1, 192, OUTSIDE, NOT, (x, n) -> x.given(n));
        bounds("promise 28: vespers(k, 0)", 1, 16, OUTSIDE, NOT, (x, n) -> x.vespers(n, 0));
        bounds("promise 28: vespers(k, 1)", 1, 16, OUTSIDE, NOT, (x, n) -> x.vespers(n, 1));
        bounds("promise 28: vespers(1, what)", 0, 1, OUTSIDE, NOT, (x, n) -> x.vespers(1, n));
        bounds("promise 28: vespers(16, what)", 0, 1, OUTSIDE, NOT, (x, n) -> x.vespers(16, n));
        bounds("promise 29: ship(m)", 1, 99, OUTSIDE, NOT, (x, n) -> x.ship(n));
        bounds("promise 30: widows(c)", 0, 99, OUTSIDE, ANSWERS, (x, n) -> x.widows(n));
        bounds("promise 31: odds(k)", 0, 16, OUTSIDE, NOT, (x, n) -> x.odds(n));
    }

    private static void heard() {
        bounds("promise 35: was(quarter, 0)", 0, 95, OUTSIDE, NOT, (x, n) -> x.was(n, 0));
        bounds("promise 35: was(quarter, 16)", 0, 95, OUTSIDE, NOT, (x, n) -> x.was(n, 16));
        bounds("promise 35: was(0, heard)", 0, 16, OUTSIDE, NOT, (x, n) -> x.was(0, n));
        bounds("promise 35: was(95, heard)", 0, 16, OUTSIDE, NOT, (x, n) -> x.was(95, n));
        bounds("promise 36: could(what)", 0, 3, OUTSIDE, NOT, (x, n) -> x.could(n));
        bounds("promise 39: write(0, pints)", 0, 20, OUTSIDE, UNKNOWN, (x, n) -> x.write(0, n));
    }

    private static void drawsAndImages() {
        bounds("promise 42: seed(v)", 0, MOST, OUTSIDE, ANSWERS, (x, n) -> x.seed(n));
        bounds("promise 43: keep(i)", 0, 1, UNKNOWN, ANSWERS, (x, n) -> x.keep(n));
        bounds("promise 44: goBack(i)", 0, 1, UNKNOWN, NOT, (x, n) -> x.goBack(n));
    }

    /** Both numbers are wrong: UNKNOWN. */
    private static void unknownFirst() {
        Checks.part("UNKNOWN ahead of OUTSIDE");
        BellRope x = Probe.busy();
        for (int d : new int[] {Integer.MIN_VALUE, -1, 3, MOST}) {
            Checks.row("drinker, treat, turn, write of " + d,
                new int[] {x.drinker(d, -1), x.drinker(d, 7), x.treat(d, 0), x.treat(d, 21), x.turn(d, -1), x.turn(d, 40), x.write(d, -1), x.write(d, 21)},
                UNKNOWN, UNKNOWN, UNKNOWN, UNKNOWN, UNKNOWN, UNKNOWN, UNKNOWN, UNKNOWN);
        }
        for (int g : new int[] {Integer.MIN_VALUE, -1, 2, MOST}) {
            Checks.row("goer of " + g, new int[] {x.goer(g, -1), x.goer(g, 2)}, UNKNOWN, UNKNOWN);
        }
        Probe.same("what is refused changed something", x, Probe.busy());
        Checks.part("UNKNOWN ahead of NOT");
        BellRope none = new BellRope();
        Checks.row("come, go, goBack, keep", new int[] {none.come(0), none.go(0), none.goBack(2), none.goBack(-1), none.keep(2)},
            UNKNOWN, UNKNOWN, UNKNOWN, UNKNOWN, UNKNOWN);
        Checks.part("UNKNOWN ahead of FULL");
        BellRope full = fullBook();
        Checks.row("write", new int[] {full.write(-1, 0), full.write(3, 0), full.write(3, 21)}, UNKNOWN, UNKNOWN, UNKNOWN);
        Probe.same("what is refused changed something", full, fullBook());
    }

    private static void outsideFirst() {
        Checks.part("OUTSIDE ahead of FULL");
        BellRope text = fullText();
        Checks.row("feed", new int[] {text.feed(-1), text.feed(256), text.feed(255)}, OUTSIDE, OUTSIDE, FULL);
        Checks.row("told(5), inn()", new int[] {text.told(5), text.inn()}, 240, 0);
        BellRope was = fullWas();
        Checks.row("was", new int[] {was.was(-1, 0), was.was(96, 0), was.was(0, -1), was.was(0, 17), was.was(0, 0)},
            OUTSIDE, OUTSIDE, OUTSIDE, OUTSIDE, FULL);
        Probe.same("what is refused changed something", was, fullWas());
        BellRope book = fullBook();
        Checks.row("write", new int[] {book.write(0, -1), book.write(0, 21), book.write(0, 0)}, OUTSIDE, OUTSIDE, FULL);
        Probe.same("what is refused changed something", book, fullBook());
    }

    private static void notFirst() {
        Checks.part("promises 11, 12: NOT");
        Probe.unchanged("come of who is IN", Probe::busy, x -> Checks.due("come(1)", x.come(1), NOT));
        Supplier<BellRope> nobody = () -> Checks.open(Probe.BUSY);
        Probe.unchanged("go of who is not IN", nobody, x -> Checks.due("go(1)", x.go(1), NOT));
        Checks.part("promise 18: NOT");
        Probe.unchanged("undo of none", nobody, x -> Checks.due("undo()", x.undo(), NOT));
        Checks.part("promise 44: NOT");
        Probe.unchanged("goBack to none", nobody, x -> Checks.row("goBack", new int[] {x.goBack(0), x.goBack(1)}, NOT, NOT));
        Checks.part("promises 22, 37, 38: NOT");
        Probe.unchanged("noon, listen, muffled without an inn", BellRope::new,
            x -> Checks.row("noon(), listen(), muffled()", new int[] {x.noon(), x.listen(), x.muffled()}, NOT, NOT, NOT));
    }

    private static BellRope fullText() {
        BellRope x = new BellRope();
        Checks.feed(x, " ".repeat(240));
        return x;
    }

    private static BellRope fullWas() {
        BellRope x = Probe.busy();
        for (int i = x.told(14); i < 6; i++) {
            x.was(2, 3);
        }
        return x;
    }

    private static BellRope fullBook() {
        BellRope x = Probe.busy();
        for (int i = x.told(15); i < 15; i++) {
            x.write(2, x.drinker(2, 4));
        }
        return x;
    }
}

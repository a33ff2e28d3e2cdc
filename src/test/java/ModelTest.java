import java.util.ArrayDeque;
import java.util.ArrayList;
import java.util.Arrays;
import java.util.Deque;
import java.util.HashMap;
import java.util.List;
import java.util.Map;
import java.util.Random;
import java.util.function.IntUnaryOperator;
import java.util.regex.Matcher;
import java.util.regex.Pattern;

/** Long runs of calls by chance (with a fixed seed), each answer next to that of a slow and plain model of the document. */
public final class ModelTest {
    private static final int NONE = -1, UNKNOWN = -1000000001, OUTSIDE = -1000000002, NOT = -1000000003, FULL = -1000000004;

    public static void main(String[] args) {
        for (int run = 0; run < 1500 && Checks.wrong() < 20; run++) {
            Checks.part("run " + run);
            new Run(new Random(run * 7919L + 5)).go();
        }
        for (int run = 0; run < 40000 && Checks.wrong() < 20; run++) {
            Checks.part("text " + run);
            Random chance = new Random(run * 104729L + 1);
            String text = Texts.spoilt(chance, Texts.inn(chance));
            sameText(text);
        }
        Checks.end();
    }

    private static void sameText(String text) {
        BellRope x = new BellRope();
        Model m = new Model();
        String fed = text.length() > 240 ? text.substring(0, 240) : text;
        Checks.feed(x, text);
        m.text.append(fed);
        Checks.due("inn() of \"" + fed + "\"", x.inn(), m.inn());
        Checks.due("fault() of \"" + fed + "\"", x.fault(), m.faultAt);
    }

    /** Texts of inns, by chance, right ones and spoilt ones. */
    private static final class Texts {
        static String inn(Random chance) {
            StringBuilder text = new StringBuilder();
            text.append("b").append(chance.nextInt(2)).append(' ').append(chance.nextInt(chance.nextBoolean() ? 3 : 10)).append(' ').append(chance.nextInt(128)).append(';');
            List<String> clauses = new ArrayList<>();
            for (int i = chance.nextInt(8); i > 0; i--) {
                clauses.add("d" + (1 + chance.nextInt(chance.nextInt(3) == 0 ? 40 : 5)) + " " + (1 + chance.nextInt(20)) + " " + chance.nextInt(101) + ";");
            }
            for (int i = chance.nextInt(5); i > 0; i--) {
                int from = chance.nextInt(96);
                clauses.add("s" + from + " " + (1 + chance.nextInt(Math.min(24, 96 - from))) + ";");
            }
            for (int i = chance.nextInt(7); i > 0; i--) {
                clauses.add("g" + chance.nextInt(96) + " " + chance.nextInt(41) + ";");
            }
            List<Integer> strokes = new ArrayList<>();
            for (int i = chance.nextInt(6); i > 0; i--) {
                int n = 1 + chance.nextInt(chance.nextBoolean() ? 8 : 16);
                if (!strokes.contains(n)) {
                    strokes.add(n);
                    clauses.add("n" + n + ";");
                }
            }
            java.util.Collections.shuffle(clauses, chance);
            for (String clause : clauses) {
                if (text.length() + clause.length() <= 240) {
                    text.append(clause);
                }
            }
            return text.toString();
        }

        static String spoilt(Random chance, String right) {
            StringBuilder text = new StringBuilder(right);
            String signs = "bdsgn;; 0123456789xB\u00e9\t";
            String[] pieces = {"b0 0 0;", "d1 1 1;", "s95 2;", "s0 25;", "g5 5;", "n3;", "n16;", "0000", "128", "999", " ", "d1 1 1;d2 2 2;d3 3 3;"};
            for (int i = chance.nextInt(4); i > 0 && text.length() > 0; i--) {
                int place = chance.nextInt(text.length());
                switch (chance.nextInt(6)) {
                    case 0: text.setCharAt(place, signs.charAt(chance.nextInt(signs.length()))); break;
                    case 1: text.deleteCharAt(place); break;
                    case 2: text.insert(place, pieces[chance.nextInt(pieces.length)]); break;
                    case 3: text.setLength(place); break;
                    case 4: text.append(pieces[chance.nextInt(pieces.length)]); break;
                    default: text.insert(place, signs.charAt(chance.nextInt(signs.length())));
                }
            }
            return text.length() > 240 ? text.substring(0, 240) : text.toString();
        }
    }

    /** One run of calls on both. */
    private static final class Run {
        final Random chance;
        final BellRope x = new BellRope();
        final Model m = new Model();
        int calls;

        Run(Random chance) {
            this.chance = chance;
        }

        void go() {
            if (chance.nextInt(10) != 0) {
                tell(Texts.inn(chance));
            }
            while (calls < 512 && Checks.wrong() < 20) {
                step();
            }
        }

        void tell(String text) {
            for (int i = 0; i < text.length() && calls < 500; i++) {
                same("feed", x.feed(text.charAt(i)), m.feed(text.charAt(i)));
            }
            same("inn", x.inn(), m.inn());
            same("fault", x.fault(), m.faultAt);
        }

        void same(String call, int got, int want) {
            calls++;
            Checks.due(call + " (call " + calls + ")", got, want);
        }

        /** A number about these bounds, at times beyond them. */
        int near(int least, int most) {
            int kind = chance.nextInt(12);
            if (kind == 0) {
                return least - 1;
            }
            if (kind == 1) {
                return most + 1;
            }
            return least + chance.nextInt(most - least + 1);
        }

        int one() {
            return m.drinkers.isEmpty() || chance.nextInt(15) == 0 ? near(0, 7) : chance.nextInt(m.drinkers.size());
        }

        void step() {
            int kind = chance.nextInt(64);
            if (kind < 22) {
                deed(kind);
            } else if (kind < 52) {
                ask(kind - 22);
            } else {
                heard(kind - 52);
            }
        }

        void deed(int kind) {
            int d = one();
            switch (kind) {
                case 0: case 1: case 2: case 3: case 4: {
                    int n = chance.nextInt(3) == 0 ? near(1, 96) : near(1, 3);
                    same("quarter(" + n + ")", x.quarter(n), m.quarter(n, false));
                    break;
                }
                case 5: case 6: case 7: case 8: case 9: case 10:
                    same("come(" + d + ")", x.come(d), m.come(d));
                    break;
                case 11: case 12:
                    same("go(" + d + ")", x.go(d), m.go(d));
                    break;
                case 13: {
                    int n = near(1, 20);
                    same("treat(" + d + ", " + n + ")", x.treat(d, n), m.treat(d, n));
                    break;
                }
                case 14: case 15: {
                    int t = near(0, 39);
                    same("turn(" + d + ", " + t + ")", x.turn(d, t), m.turn(d, t));
                    break;
                }
                case 16: {
                    int n = chance.nextBoolean() ? near(0, 96) : near(0, 5);
                    same("hang(" + n + ")", x.hang(n), m.hang(n));
                    break;
                }
                case 17: {
                    int r = near(0, 2);
                    same("rain(" + r + ")", x.rain(r), m.rain(r));
                    break;
                }
                case 18: {
                    int n = near(1, 96);
                    same("drift(" + n + ")", x.drift(n), m.quarter(n, true));
                    break;
                }
                case 19: case 20:
                    same("undo()", x.undo(), m.undo());
                    break;
                default:
                    rare();
            }
        }

        void rare() {
            int i = near(0, 1);
            switch (chance.nextInt(8)) {
                case 0: case 1: case 2: {
                    int v = chance.nextInt();
                    same("seed(" + v + ")", x.seed(v), m.seed(v));
                    break;
                }
                case 3: case 4:
                    same("keep(" + i + ")", x.keep(i), m.keep(i));
                    break;
                case 5: case 6:
                    same("goBack(" + i + ")", x.goBack(i), m.goBack(i));
                    break;
                default:
                    if (calls < 200) {
                        tell(chance.nextInt(4) == 0 ? Texts.spoilt(chance, Texts.inn(chance)) : Texts.inn(chance));
                    }
            }
        }

        void ask(int kind) {
            int k = chance.nextInt(4) == 0 ? near(1, 16) : near(1, 5);
            int n = chance.nextBoolean() ? near(0, 192) : near(0, 9);
            int what = near(0, 1);
            int d = one();
            switch (kind) {
                case 0: { int w = near(0, 16); same("told(" + w + ")", x.told(w), m.told(w)); break; }
                case 1: { int w = near(0, 6); same("drinker(" + d + ", " + w + ")", x.drinker(d, w), m.drinker(d, w)); break; }
                case 2: { int g = near(0, 5); same("goer(" + g + ", " + what + ")", x.goer(g, what), m.goer(g, what)); break; }
                case 3: { int s = near(0, 4); same("signal(" + s + ")", x.signal(s), m.signal(s)); break; }
                case 4: case 5: { int i = near(0, 40); same("logged(" + i + ", " + what + ")", x.logged(i, what), m.logged(i, what)); break; }
                case 6: case 7: same("strikes(" + n + ")", x.strikes(n), m.strikes(n)); break;
                case 8: case 9: same("when(" + k + ")", x.when(k), m.when(k)); break;
                case 10: case 11: same("hour(" + n + ")", x.hour(n), m.hour(n)); break;
                case 12: same("noon()", x.noon(), m.noon()); break;
                case 13: case 14: same("late(" + k + ")", x.late(k), m.late(k)); break;
                case 15: same("best(" + what + ")", x.best(what), m.best(what)); break;
                case 16: { int g = near(0, 5); same("alone(" + g + ")", x.alone(g), m.alone(g)); break; }
                case 17: same("given(" + n + ")", x.given(n), m.given(n)); break;
                case 18: same("mistaken()", x.mistaken(), m.mistaken()); break;
                case 19: case 20: case 21: same("vespers(" + k + ", " + what + ")", x.vespers(k, what), m.vespers(k, what)); break;
                case 22: { int s = chance.nextBoolean() ? near(1, 99) : near(1, 9); same("ship(" + s + ")", x.ship(s), m.ship(s)); break; }
                case 23: { int c = near(0, 99); same("widows(" + c + ")", x.widows(c), m.widows(c)); break; }
                case 24: case 25: { int o = chance.nextBoolean() ? near(0, 16) : near(0, 5); same("odds(" + o + ")", x.odds(o), m.odds(o)); break; }
                case 26: same("most()", x.most(), m.most()); break;
                case 27: same("round()", x.round(), m.round()); break;
                default: same("share(" + d + ")", x.share(d), m.share(d));
            }
        }

        void heard(int kind) {
            switch (kind) {
                case 0: case 1: case 2: {
                    int q = near(0, 95);
                    // what may be so, so that some SETS are left
                    int h = chance.nextInt(5) == 0 || m.drinkers.isEmpty() ? near(0, 16)
                        : m.heardOn(chance.nextInt(1 << m.drinkers.size()), q, m.takes);
                    same("was(" + q + ", " + h + ")", x.was(q, h), m.was(q, h));
                    break;
                }
                case 3: case 4: case 5: { int w = near(0, 3); same("could(" + w + ")", x.could(w), m.could(w)); break; }
                case 6: case 7: same("listen()", x.listen(), m.listen()); break;
                case 8: same("muffled()", x.muffled(), m.muffled()); break;
                case 9: {
                    int d = one();
                    int p = d >= 0 && d < m.drinkers.size() && chance.nextInt(4) != 0 ? m.now.pints[d] : near(0, 20);
                    same("write(" + d + ", " + p + ")", x.write(d, p), m.write(d, p));
                    break;
                }
                case 10: same("judge()", x.judge(), m.judge()); break;
                default: if (chance.nextInt(3) == 0) { same("tear()", x.tear(), m.tear()); }
            }
        }
    }

    /** All of section 2. */
    private static final class Now {
        int quarters, bell, hung, rain, paid;
        boolean[] in = new boolean[7];
        int[] pints = new int[7];
        int[] turn = new int[7];
        List<int[]> log = new ArrayList<>();

        Now copy() {
            Now other = new Now();
            other.quarters = quarters;
            other.bell = bell;
            other.hung = hung;
            other.rain = rain;
            other.paid = paid;
            other.in = in.clone();
            other.pints = pints.clone();
            other.turn = turn.clone();
            other.log = new ArrayList<>(log);
            return other;
        }
    }

    private static final class Model {
        final StringBuilder text = new StringBuilder();
        int faultAt = NONE;
        boolean open;
        int echo, takes, wet;
        List<int[]> drinkers = new ArrayList<>();
        List<int[]> sextons = new ArrayList<>();
        List<int[]> goers = new ArrayList<>();
        List<Integer> signals = new ArrayList<>();
        Now now = new Now();
        long seed;
        Deque<Now> past = new ArrayDeque<>();
        Now[] images = new Now[2];
        long[] imageSeeds = new long[2];
        List<int[]> known = new ArrayList<>();
        List<int[]> book = new ArrayList<>();

        int feed(int letter) {
            if (letter < 0 || letter > 255) {
                return OUTSIDE;
            }
            if (text.length() == 240) {
                return FULL;
            }
            text.append((char) letter);
            return text.length();
        }

        /** By words: each clause is told by a pattern of NUMBERS. */
        int inn() {
            String all = text.toString();
            text.setLength(0);
            Told told = new Told(all);
            faultAt = NONE;
            if (told.fault != 0) {
                faultAt = told.faultAt;
                return -10 - told.fault;
            }
            open = told.b != null;
            echo = open ? told.b[0] : 0;
            takes = open ? told.b[1] : 0;
            wet = open ? told.b[2] : 0;
            drinkers = told.rows.get('d');
            sextons = told.rows.get('s');
            goers = told.rows.get('g');
            signals = new ArrayList<>();
            for (int[] row : told.rows.get('n')) {
                signals.add(row[0]);
            }
            now = new Now();
            past.clear();
            images = new Now[2];
            known.clear();
            book.clear();
            return drinkers.size();
        }

        boolean isWet(Now at) {
            return at.rain == 1 || at.rain == 0 && (wet & 1 << at.quarters / 96 % 7) != 0;
        }

        boolean sexton(int quarterOfDay) {
            for (int[] s : sextons) {
                if (quarterOfDay >= s[0] && quarterOfDay < s[0] + s[1]) {
                    return true;
                }
            }
            return false;
        }

        int heard(int rung, boolean isWet, boolean blanket, int k) {
            int strokes = isWet ? rung / 2 : rung;
            if (blanket) {
                strokes = strokes < k ? 0 : strokes - k;
            }
            return strokes == 0 ? 0 : strokes + echo;
        }

        /** One QUARTER of an evening; what is HEARD. */
        int pass(Now at) {
            int k = at.quarters;
            if (k % 96 == 0) {
                Arrays.fill(at.pints, 0);
            }
            int rung = 0;
            for (int d = 0; d < drinkers.size(); d++) {
                if (at.in[d] && at.pints[d] < drinkers.get(d)[1] && (k + at.turn[d]) % drinkers.get(d)[0] == 0) {
                    rung++;
                    at.pints[d]++;
                    at.paid++;
                }
            }
            int heard = heard(rung, isWet(at), sexton(k % 96) || at.hung > 0, takes);
            at.hung -= at.hung > 0 ? 1 : 0;
            at.log.add(0, new int[] {heard, rung});
            if (at.log.size() > 40) {
                at.log.remove(40);
            }
            at.bell = heard > 0 ? (at.bell + 1) % 12 : at.bell;
            at.quarters++;
            return heard;
        }

        void note() {
            past.push(now.copy());
            if (past.size() > 16) {
                past.removeLast();
            }
        }

        boolean unknown(int d) {
            return d < 0 || d >= drinkers.size();
        }

        int draw(int n) {
            seed = (seed * 1103515245L + 12345L) % (1L << 31);
            return (int) (seed / 65536 % n);
        }

        int quarter(int n, boolean drift) {
            if (n < 1 || n > 96) {
                return OUTSIDE;
            }
            if (!open) {
                return NOT;
            }
            note();
            int heard = 0;
            for (int i = 0; i < n; i++) {
                if (drift && !drinkers.isEmpty()) {
                    int d = draw(drinkers.size());
                    switch (draw(6)) {
                        case 0: now.in[d] = true; break;
                        case 1: now.in[d] = false; break;
                        case 2: now.rain = draw(3); break;
                        default:
                    }
                }
                heard = pass(now);
            }
            return heard;
        }

        int who(Now at) {
            int set = 0;
            for (int d = 0; d < 7; d++) {
                set += at.in[d] ? 1 << d : 0;
            }
            return set;
        }

        int come(int d) {
            if (unknown(d)) {
                return UNKNOWN;
            }
            if (now.in[d]) {
                return NOT;
            }
            note();
            now.in[d] = true;
            return who(now);
        }

        int go(int d) {
            if (unknown(d)) {
                return UNKNOWN;
            }
            if (!now.in[d]) {
                return NOT;
            }
            note();
            now.in[d] = false;
            return who(now);
        }

        int treat(int d, int n) {
            if (unknown(d)) {
                return UNKNOWN;
            }
            if (n < 1 || n > 20) {
                return OUTSIDE;
            }
            note();
            now.pints[d] = Math.max(0, now.pints[d] - n);
            return now.pints[d];
        }

        int turn(int d, int t) {
            if (unknown(d)) {
                return UNKNOWN;
            }
            if (t < 0 || t > 39) {
                return OUTSIDE;
            }
            note();
            int old = now.turn[d];
            now.turn[d] = t;
            return old;
        }

        int hang(int n) {
            if (n < 0 || n > 96) {
                return OUTSIDE;
            }
            if (!open) {
                return NOT;
            }
            note();
            int old = now.hung;
            now.hung = n;
            return old;
        }

        int rain(int r) {
            if (r < 0 || r > 2) {
                return OUTSIDE;
            }
            if (!open) {
                return NOT;
            }
            note();
            int old = now.rain;
            now.rain = r;
            return old;
        }

        int undo() {
            if (past.isEmpty()) {
                return NOT;
            }
            now = past.pop();
            return past.size();
        }

        int seed(int v) {
            if (v < 0) {
                return OUTSIDE;
            }
            int old = (int) seed;
            seed = v;
            return old;
        }

        int keep(int i) {
            if (i < 0 || i > 1) {
                return UNKNOWN;
            }
            images[i] = now.copy();
            imageSeeds[i] = seed;
            past.clear();
            return 1;
        }

        int goBack(int i) {
            if (i < 0 || i > 1) {
                return UNKNOWN;
            }
            if (images[i] == null) {
                return NOT;
            }
            now = images[i].copy();
            seed = imageSeeds[i];
            past.clear();
            return 1;
        }

        int told(int what) {
            int[] all = {echo, takes, drinkers.size(), goers.size(), signals.size(), text.length(), now.quarters, who(now), now.bell,
                isWet(now) ? 1 : 0, now.hung, now.paid, now.log.size(), now.rain, known.size(), book.size(), past.size()};
            return what < 0 || what > 16 ? OUTSIDE : all[what];
        }

        int drinker(int d, int what) {
            if (unknown(d)) {
                return UNKNOWN;
            }
            if (what < 0 || what > 6) {
                return OUTSIDE;
            }
            if (what < 3) {
                return drinkers.get(d)[what];
            }
            Now next = now.copy();
            pass(next);
            int ahead = now.quarters % 96 == 0 ? 0 : now.pints[d];
            return new int[] {now.in[d] ? 1 : 0, now.pints[d], now.turn[d], next.pints[d] - ahead}[what - 3];
        }

        int goer(int g, int what) {
            return g < 0 || g >= goers.size() ? UNKNOWN : what < 0 || what > 1 ? OUTSIDE : goers.get(g)[what];
        }

        int signal(int s) {
            return s < 0 || s >= signals.size() ? UNKNOWN : signals.get(s);
        }

        int logged(int i, int what) {
            return what < 0 || what > 1 ? OUTSIDE : i < 0 || i >= now.log.size() ? NONE : now.log.get(i)[what];
        }

        /** The evening behind n QUARTERS. */
        Now behind(int n) {
            Now at = now.copy();
            for (int i = 0; i < n; i++) {
                pass(at);
            }
            return at;
        }

        int[] heards(int n) {
            Now at = now.copy();
            int[] row = new int[n];
            for (int i = 0; i < n; i++) {
                row[i] = pass(at);
            }
            return row;
        }

        int refused(boolean outside) {
            return outside ? OUTSIDE : !open ? NOT : 0;
        }

        int strikes(int n) {
            int no = refused(n < 0 || n > 191);
            return no != 0 ? no : behind(n + 1).log.get(0)[0];
        }

        int when(int k) {
            int no = refused(k < 1 || k > 16);
            if (no != 0) {
                return no;
            }
            int[] row = heards(192);
            for (int i = 0; i < 192; i++) {
                if (row[i] >= k) {
                    return i;
                }
            }
            return NONE;
        }

        int hour(int n) {
            int no = refused(n < 0 || n > 192);
            return no != 0 ? no : behind(n).bell;
        }

        int noon() {
            int no = refused(false);
            if (no != 0) {
                return no;
            }
            Now at = now.copy();
            for (int i = 1; i <= 192; i++) {
                int old = at.bell;
                pass(at);
                if (old == 11 && at.bell == 0) {
                    return i;
                }
            }
            return NONE;
        }

        boolean isLate(int g, int k) {
            int[] row = heards(96);
            int there = 1000;
            for (int i = 95; i >= 0; i--) {
                if (row[i] >= k) {
                    there = i + goers.get(g)[1];
                }
            }
            int his = 0;
            while ((now.quarters + his) % 96 != goers.get(g)[0]) {
                his++;
            }
            return there > his;
        }

        int late(int k) {
            int no = refused(k < 1 || k > 16);
            if (no != 0) {
                return no;
            }
            int set = 0;
            for (int g = 0; g < goers.size(); g++) {
                set += isLate(g, k) ? 1 << g : 0;
            }
            return set;
        }

        int best(int what) {
            int no = refused(what < 0 || what > 1);
            if (no != 0) {
                return no;
            }
            for (int many = 0; many <= 6; many++) {
                for (int k = 1; k <= 16; k++) {
                    if (Integer.bitCount(late(k)) == many) {
                        return what == 0 ? k : many;
                    }
                }
            }
            return -77;
        }

        int alone(int g) {
            if (g < 0 || g >= goers.size()) {
                return UNKNOWN;
            }
            int set = 0;
            for (int k = 1; k <= 16; k++) {
                set += isLate(g, k) ? 0 : 1 << k;
            }
            return set;
        }

        int given(int n) {
            int no = refused(n < 1 || n > 192);
            if (no != 0) {
                return no;
            }
            int set = 0;
            for (int heard : heards(n)) {
                int s = signals.indexOf(heard);
                set |= s < 0 ? 0 : 1 << s;
            }
            return set;
        }

        int mistaken() {
            int many = 0;
            for (int[] row : now.log) {
                many += signals.contains(row[1]) && row[0] != row[1] ? 1 : 0;
            }
            return many;
        }

        int vespers(int k, int what) {
            int no = refused(k < 1 || k > 16 || what < 0 || what > 1);
            if (no != 0) {
                return no;
            }
            int fewest = 100;
            int whom = NONE;
            for (int set = 0; set < 1 << drinkers.size(); set++) {
                Now at = now.copy();
                int pints = 0;
                for (int d = 0; d < drinkers.size(); d++) {
                    if ((set >> d & 1) == 0) {
                        continue;
                    }
                    if (!at.in[d]) {
                        at.in[d] = true;
                        pints++;
                    }
                    if (at.pints[d] == drinkers.get(d)[1] && at.quarters % 96 != 0) {
                        at.pints[d]--;
                        pints++;
                    }
                }
                if (pass(at) >= k && pints < fewest) {
                    fewest = pints;
                    whom = set;
                }
            }
            return whom == NONE ? NONE : what == 0 ? fewest : whom;
        }

        int ship(int miles) {
            int no = refused(miles < 1 || miles > 99);
            if (no != 0) {
                return no;
            }
            int left = miles;
            int behind = 0;
            for (int heard : heards(192)) {
                behind++;
                left -= 2 * heard >= left || heard >= 3 ? 1 : 0;
                if (left == 0) {
                    return behind;
                }
            }
            return NONE;
        }

        int widows(int c) {
            if (c < 0 || c > 99) {
                return OUTSIDE;
            }
            int pay = 0;
            for (int i = 0; i < now.log.size(); i++) {
                boolean like = i + 1 < now.log.size() && now.log.get(i + 1)[0] == now.log.get(i)[0];
                pay += like ? 0 : c * now.log.get(i)[0];
            }
            return pay;
        }

        int odds(int k) {
            int no = refused(k < 0 || k > 16);
            if (no != 0) {
                return no;
            }
            Map<Integer, Integer> lies = new HashMap<>();
            lies.put(0, 1000000);
            for (int d = 0; d < drinkers.size(); d++) {
                if (drinker(d, 6) == 0) {
                    continue;
                }
                Map<Integer, Integer> next = new HashMap<>();
                for (Map.Entry<Integer, Integer> e : lies.entrySet()) {
                    int up = (int) ((long) e.getValue() * drinkers.get(d)[2] / 100);
                    next.merge(e.getKey(), e.getValue() - up, Integer::sum);
                    next.merge(e.getKey() + 1, up, Integer::sum);
                }
                lies = next;
            }
            return lies.entrySet().stream().filter(e -> e.getKey() >= k).mapToInt(Map.Entry::getValue).sum();
        }

        int most() {
            int who = NONE;
            for (int d = drinkers.size() - 1; d >= 0; d--) {
                if (now.pints[d] > 0 && (who == NONE || now.pints[d] >= now.pints[who])) {
                    who = d;
                }
            }
            return who;
        }

        int round() {
            long common = 1;
            for (int d = 0; d < drinkers.size(); d++) {
                if (now.in[d]) {
                    long t = drinkers.get(d)[0];
                    long a = common;
                    long b = t;
                    while (b != 0) {
                        long rest = a % b;
                        a = b;
                        b = rest;
                    }
                    common = common / a * t;
                }
            }
            return (int) Math.min(common, 999999);
        }

        int share(int d) {
            if (unknown(d)) {
                return UNKNOWN;
            }
            List<Integer> payers = new ArrayList<>();
            for (int e = 0; e < drinkers.size(); e++) {
                if (now.in[e]) {
                    payers.add(e);
                }
            }
            if (!payers.contains(d)) {
                return 0;
            }
            IntUnaryOperator had = e -> now.pints[e];
            payers.sort((a, b) -> had.applyAsInt(a) != had.applyAsInt(b) ? had.applyAsInt(b) - had.applyAsInt(a) : a - b);
            int all = Arrays.stream(now.pints).sum();
            int[] pays = new int[7];
            for (int i = 0; i < all; i++) {
                pays[payers.get(i % payers.size())]++;
            }
            return pays[d];
        }

        int was(int quarter, int heard) {
            int no = refused(quarter < 0 || quarter > 95 || heard < 0 || heard > 16);
            if (no != 0) {
                return no;
            }
            if (known.size() == 6) {
                return FULL;
            }
            known.add(new int[] {quarter, heard});
            return known.size();
        }

        int heardOn(int set, int n, int k) {
            if (n < 0) {
                return 0;
            }
            int rung = 0;
            for (int d = 0; d < drinkers.size(); d++) {
                rung += (set & 1 << d) != 0 && (n + now.turn[d]) % drinkers.get(d)[0] == 0 ? 1 : 0;
            }
            return heard(rung, false, sexton(n), k);
        }

        List<Integer> sets() {
            List<Integer> all = new ArrayList<>();
            for (int set = 0; set < 1 << drinkers.size(); set++) {
                int s = set;
                if (known.stream().allMatch(w -> heardOn(s, w[0], takes) == w[1])) {
                    all.add(set);
                }
            }
            return all;
        }

        int could(int what) {
            int no = refused(what < 0 || what > 3);
            if (no != 0) {
                return no;
            }
            List<Integer> all = sets();
            if (what == 0) {
                return all.size();
            }
            if (all.isEmpty()) {
                return what == 1 ? NONE : 0;
            }
            if (what == 1) {
                return all.get(0);
            }
            int sure = 0;
            for (int d = 0; d < drinkers.size(); d++) {
                int bit = 1 << d;
                int wanted = what == 2 ? bit : 0;
                sure += all.stream().allMatch(s -> (s & bit) == wanted) ? bit : 0;
            }
            return sure;
        }

        int listen() {
            int no = refused(false);
            if (no != 0) {
                return no;
            }
            List<Integer> all = sets();
            int least = all.size();
            int where = NONE;
            for (int q = 0; q < 96; q++) {
                Map<Integer, Integer> parts = new HashMap<>();
                for (int set : all) {
                    parts.merge(heardOn(set, q, takes), 1, Integer::sum);
                }
                int greatest = parts.values().stream().mapToInt(i -> i).max().orElse(0);
                if (parts.size() > 1 && greatest < least) {
                    least = greatest;
                    where = q;
                }
            }
            return where;
        }

        int muffled() {
            int no = refused(false);
            if (no != 0) {
                return no;
            }
            int set = 0;
            for (int k = 0; k <= 9; k++) {
                int kk = k;
                set += known.stream().allMatch(w -> heardOn(who(now), w[0], kk) == w[1]) ? 1 << k : 0;
            }
            return set;
        }

        int write(int d, int pints) {
            if (unknown(d)) {
                return UNKNOWN;
            }
            if (pints < 0 || pints > 20) {
                return OUTSIDE;
            }
            if (book.size() == 15) {
                return FULL;
            }
            book.add(new int[] {d, pints});
            return book.size();
        }

        int tear() {
            int had = known.size() + book.size();
            known.clear();
            book.clear();
            return had;
        }

        int judge() {
            for (int i = 0; i < book.size(); i++) {
                if (now.pints[book.get(i)[0]] != book.get(i)[1]) {
                    return i;
                }
            }
            return NONE;
        }
    }

    /** A text by its words and NUMBERS: every FAULT of every place is looked for, then the first and least is taken. */
    private static final class Told {
        int[] b;
        final Map<Character, List<int[]>> rows = new HashMap<>();
        int fault;
        int faultAt;

        Told(String text) {
            for (char c : "dsgn".toCharArray()) {
                rows.put(c, new ArrayList<>());
            }
            List<String> words = new ArrayList<>();
            List<Integer> places = new ArrayList<>();
            Matcher next = Pattern.compile("[0-9]+|[^ ]", Pattern.DOTALL).matcher(text);
            while (next.find()) {
                words.add(next.group());
                places.add(next.start());
            }
            // the end is a word that can stand nowhere but between clauses
            words.add("END");
            places.add(text.length());
            read(words, places);
        }

        void read(List<String> words, List<Integer> places) {
            int i = 0;
            while (!words.get(i).equals("END")) {
                String word = words.get(i);
                int start = clause(word);
                if (start != 0) {
                    fault = start;
                    faultAt = places.get(i);
                    return;
                }
                int[][] bounds = bounds(word.charAt(0));
                int[] row = new int[bounds.length];
                for (int n = 0; n < bounds.length; n++) {
                    i++;
                    fault = number(word.charAt(0), words.get(i), bounds[n], row, n);
                    faultAt = places.get(i);
                    if (fault != 0) {
                        return;
                    }
                }
                i++;
                if (!words.get(i).equals(";")) {
                    fault = 1;
                    faultAt = places.get(i);
                    return;
                }
                i++;
                if (word.equals("b")) {
                    b = row;
                } else {
                    rows.get(word.charAt(0)).add(row);
                }
            }
        }

        int clause(String word) {
            if (!List.of("b", "d", "s", "g", "n").contains(word) || b == null && !word.equals("b")) {
                return 1;
            }
            int most = Map.of("b", 1, "d", 7, "s", 4, "g", 6, "n", 5).get(word);
            int many = word.equals("b") ? (b == null ? 0 : 1) : rows.get(word.charAt(0)).size();
            return many >= most ? 3 : 0;
        }

        int[][] bounds(char word) {
            switch (word) {
                case 'b': return new int[][] {{0, 1}, {0, 9}, {0, 127}};
                case 'd': return new int[][] {{1, 40}, {1, 20}, {0, 100}};
                case 's': return new int[][] {{0, 95}, {1, 24}};
                case 'g': return new int[][] {{0, 95}, {0, 40}};
                default: return new int[][] {{1, 16}};
            }
        }

        int number(char clause, String word, int[] bounds, int[] row, int n) {
            if (!word.matches("[0-9]+")) {
                return 1;
            }
            if (word.length() > 3) {
                return 2;
            }
            int value = Integer.parseInt(word);
            row[n] = value;
            if (value < bounds[0] || value > bounds[1] || clause == 's' && n == 1 && row[0] + value - 1 > 95) {
                return 2;
            }
            return clause == 'n' && rows.get('n').stream().anyMatch(r -> r[0] == value) ? 4 : 0;
        }
    }
}

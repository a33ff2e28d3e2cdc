/** The bell's rope in the inn: hours are by thirst, and this tells what is rung, heard and drunk. */
public final class BellRope {
    public static final int NONE = -1;
    public static final int UNKNOWN = -1000000001;
    public static final int OUTSIDE = -1000000002;
    public static final int NOT = -1000000003;
    public static final int FULL = -1000000004;

    private static final int MILLION = 1000000;
    private static final int DAY = 96;
    private static final int WEEK = 7;
    private static final int HOURS = 12;
    private static final int TWO_DAYS = 192;
    private static final int LAST_QUARTER = 90000;
    private static final int MOST_STROKES = 16;
    private static final int MOST_LETTERS = 240;
    private static final int MOST_FIGURES = 3;
    private static final int MOST_DRINKERS = 7;
    private static final int MOST_SEXTONS = 4;
    private static final int MOST_GOERS = 6;
    private static final int MOST_SIGNALS = 5;
    private static final int MOST_PINTS = 20;
    private static final int MOST_TURN = 39;
    private static final int MOST_TAKEN = 9;
    private static final int MOST_LOGGED = 40;
    private static final int MOST_WAS = 6;
    private static final int MOST_WRITTEN = 15;
    private static final int MOST_UNDONE = 16;
    private static final int LONGEST_ROUND = 999999;

    private final Reader reader = new Reader();
    private final Evening now = new Evening();
    private final Past past = new Past();
    private final Image firstImage = new Image();
    private final Image secondImage = new Image();
    private final Trial trial = new Trial();
    private final Known known = new Known();
    private final Book book = new Book();
    private final Chances chances = new Chances();
    private Inn house = new Inn();
    private Inn draft = new Inn();
    private int drawn;

    public BellRope() {
    }

    // ---- the inn

    public int feed(int letter) {
        if (letter < 0 || letter > 255) {
            return OUTSIDE;
        }
        return reader.append(letter) ? reader.many : FULL;
    }

    public int inn() {
        int wrong = reader.read(draft);
        reader.many = 0;
        if (wrong != 0) {
            return -10 - wrong;
        }
        Inn old = house;
        house = draft;
        draft = old;
        now.empty();
        past.many = 0;
        firstImage.kept = false;
        secondImage.kept = false;
        known.many = 0;
        book.many = 0;
        return house.drinkers;
    }

    public int fault() {
        return reader.faultAt;
    }

    public int told(int what) {
        switch (what) {
            case 0: return house.echo;
            case 1: return house.takes;
            case 2: return house.drinkers;
            case 3: return house.goers;
            case 4: return house.signals;
            case 5: return reader.many;
            case 6: return now.gone;
            case 7: return now.inside;
            case 8: return now.bell;
            case 9: return now.isWet(house) ? 1 : 0;
            case 10: return now.hung;
            case 11: return now.paid;
            case 12: return now.logs();
            case 13: return now.weather;
            case 14: return known.many;
            case 15: return book.many;
            case 16: return past.many;
            default: return OUTSIDE;
        }
    }

    public int drinker(int d, int what) {
        if (!house.hasDrinker(d)) {
            return UNKNOWN;
        }
        switch (what) {
            case 0: return Rows.at(house.every, d);
            case 1: return Rows.at(house.bears, d);
            case 2: return Rows.at(house.hundredths, d);
            case 3: return bit(now.inside, d);
            case 4: return Rows.at(now.pints, d);
            case 5: return Rows.at(now.turns, d);
            case 6: return bit(now.thirsty(house), d);
            default: return OUTSIDE;
        }
    }

    public int goer(int g, int what) {
        if (!house.hasGoer(g)) {
            return UNKNOWN;
        }
        switch (what) {
            case 0: return Rows.at(house.mustBe, g);
            case 1: return Rows.at(house.walks, g);
            default: return OUTSIDE;
        }
    }

    public int signal(int s) {
        return s < 0 || s >= house.signals ? UNKNOWN : Rows.at(house.signs, s);
    }

    public int logged(int i, int what) {
        if (what < 0 || what > 1) {
            return OUTSIDE;
        }
        if (i < 0 || i >= now.logs()) {
            return NONE;
        }
        return what == 0 ? now.heardAgo(i) : now.rungAgo(i);
    }

    // ---- what is done

    public int quarter(int n) {
        int refusal = refusedQuarters(n);
        if (refusal != 0) {
            return refusal;
        }
        past.note(now);
        int heard = 0;
        for (int i = 0; i < n; i++) {
            heard = now.pass(house);
        }
        return heard;
    }

    public int come(int d) {
        if (!house.hasDrinker(d)) {
            return UNKNOWN;
        }
        if (bit(now.inside, d) == 1) {
            return NOT;
        }
        past.note(now);
        now.inside |= 1 << d;
        return now.inside;
    }

    public int go(int d) {
        if (!house.hasDrinker(d)) {
            return UNKNOWN;
        }
        if (bit(now.inside, d) == 0) {
            return NOT;
        }
        past.note(now);
        now.inside &= ~(1 << d);
        return now.inside;
    }

    public int treat(int d, int n) {
        if (!house.hasDrinker(d)) {
            return UNKNOWN;
        }
        if (n < 1 || n > MOST_PINTS) {
            return OUTSIDE;
        }
        past.note(now);
        int left = Math.max(0, Rows.at(now.pints, d) - n);
        Rows.put(now.pints, d, left);
        return left;
    }

    public int turn(int d, int t) {
        if (!house.hasDrinker(d)) {
            return UNKNOWN;
        }
        if (t < 0 || t > MOST_TURN) {
            return OUTSIDE;
        }
        past.note(now);
        int old = Rows.at(now.turns, d);
        Rows.put(now.turns, d, t);
        return old;
    }

    public int hang(int n) {
        int refusal = refused(n < 0 || n > DAY);
        if (refusal != 0) {
            return refusal;
        }
        past.note(now);
        int old = now.hung;
        now.hung = n;
        return old;
    }

    public int rain(int r) {
        int refusal = refused(r < 0 || r > 2);
        if (refusal != 0) {
            return refusal;
        }
        past.note(now);
        int old = now.weather;
        now.weather = r;
        return old;
    }

    public int drift(int n) {
        int refusal = refusedQuarters(n);
        if (refusal != 0) {
            return refusal;
        }
        past.note(now);
        int heard = 0;
        for (int i = 0; i < n; i++) {
            stir();
            heard = now.pass(house);
        }
        return heard;
    }

    public int undo() {
        return past.restore(now) ? past.many : NOT;
    }

    // ---- tried

    public int strikes(int n) {
        int refusal = refused(n < 0 || n >= TWO_DAYS);
        if (refusal != 0) {
            return refusal;
        }
        trial.run(house, now, n + 1);
        return Rows.at(trial.heards, n);
    }

    public int when(int k) {
        int refusal = refused(k < 1 || k > MOST_STROKES);
        if (refusal != 0) {
            return refusal;
        }
        trial.run(house, now, TWO_DAYS);
        return trial.firstHeard(k, TWO_DAYS);
    }

    public int hour(int n) {
        int refusal = refused(n < 0 || n > TWO_DAYS);
        if (refusal != 0) {
            return refusal;
        }
        trial.run(house, now, n);
        return trial.evening.bell;
    }

    public int noon() {
        if (!house.open) {
            return NOT;
        }
        trial.run(house, now, TWO_DAYS);
        int bell = now.bell;
        for (int i = 0; i < TWO_DAYS; i++) {
            if (Rows.at(trial.heards, i) >= 1) {
                bell++;
            }
            if (bell == HOURS) {
                return i + 1;
            }
        }
        return NONE;
    }

    public int late(int k) {
        int refusal = refused(k < 1 || k > MOST_STROKES);
        if (refusal != 0) {
            return refusal;
        }
        trial.run(house, now, DAY);
        return lateBy(k);
    }

    public int best(int what) {
        int refusal = refused(what < 0 || what > 1);
        if (refusal != 0) {
            return refusal;
        }
        trial.run(house, now, DAY);
        int bestK = 1;
        int fewest = MOST_GOERS + 1;
        for (int k = 1; k <= MOST_STROKES; k++) {
            int many = Integer.bitCount(lateBy(k));
            if (many < fewest) {
                fewest = many;
                bestK = k;
            }
        }
        return what == 0 ? bestK : fewest;
    }

    public int alone(int g) {
        if (!house.hasGoer(g)) {
            return UNKNOWN;
        }
        trial.run(house, now, DAY);
        int good = 0;
        for (int k = 1; k <= MOST_STROKES; k++) {
            if (bit(lateBy(k), g) == 0) {
                good |= 1 << k;
            }
        }
        return good;
    }

    public int given(int n) {
        int refusal = refused(n < 1 || n > TWO_DAYS);
        if (refusal != 0) {
            return refusal;
        }
        trial.run(house, now, n);
        int set = 0;
        for (int i = 0; i < n; i++) {
            set |= house.signalsOf(Rows.at(trial.heards, i));
        }
        return set;
    }

    public int mistaken() {
        int many = 0;
        for (int i = 0; i < now.logs(); i++) {
            int rung = now.rungAgo(i);
            if (house.signalsOf(rung) != 0 && now.heardAgo(i) != rung) {
                many++;
            }
        }
        return many;
    }

    public int vespers(int k, int what) {
        int refusal = refused(k < 1 || k > MOST_STROKES || what < 0 || what > 1);
        if (refusal != 0) {
            return refusal;
        }
        int due = now.due(house, now.gone);
        int full = now.full(house);
        int thirsty = now.thirsty(house);
        int fewest = NONE;
        int whom = NONE;
        for (int set = 0; set < house.sets(); set++) {
            int pints = Integer.bitCount(set & ~now.inside) + Integer.bitCount(set & full);
            int rung = Integer.bitCount(due & (thirsty | set));
            if ((fewest == NONE || pints < fewest) && now.heardOf(house, rung) >= k) {
                fewest = pints;
                whom = set;
            }
        }
        return what == 0 ? fewest : whom;
    }

    public int ship(int m) {
        int refusal = refused(m < 1 || m > 99);
        if (refusal != 0) {
            return refusal;
        }
        trial.run(house, now, TWO_DAYS);
        int miles = m;
        for (int i = 0; i < TWO_DAYS; i++) {
            int heard = Rows.at(trial.heards, i);
            if (heard * 2 >= miles || heard >= 3) {
                miles--;
            }
            if (miles == 0) {
                return i + 1;
            }
        }
        return NONE;
    }

    public int widows(int c) {
        if (c < 0 || c > 99) {
            return OUTSIDE;
        }
        int strokes = 0;
        int ahead = NONE;
        for (int i = now.logs() - 1; i >= 0; i--) {
            int heard = now.heardAgo(i);
            if (heard != ahead) {
                strokes += heard;
            }
            ahead = heard;
        }
        return strokes * c;
    }

    public int odds(int k) {
        int refusal = refused(k < 0 || k > MOST_STROKES);
        if (refusal != 0) {
            return refusal;
        }
        chances.restart();
        int thirsty = now.thirsty(house);
        for (int d = 0; d < house.drinkers; d++) {
            if (bit(thirsty, d) == 1) {
                chances.lift(Rows.at(house.hundredths, d));
            }
        }
        return chances.above(k);
    }

    public int most() {
        int who = NONE;
        int pints = 0;
        for (int d = 0; d < house.drinkers; d++) {
            if (Rows.at(now.pints, d) > pints) {
                pints = Rows.at(now.pints, d);
                who = d;
            }
        }
        return who;
    }

    public int round() {
        int common = 1;
        for (int d = 0; d < house.drinkers; d++) {
            if (bit(now.inside, d) == 1) {
                common = leastCommon(common, Rows.at(house.every, d));
            }
        }
        return common;
    }

    public int share(int d) {
        if (!house.hasDrinker(d)) {
            return UNKNOWN;
        }
        int payers = Integer.bitCount(now.inside);
        if (bit(now.inside, d) == 0 || payers <= 0) {
            return 0;
        }
        int pints = Rows.sum(now.pints);
        int more = payersAhead(d) < pints % payers ? 1 : 0;
        return pints / payers + more;
    }

    // ---- what was heard

    public int was(int quarter, int heard) {
        int refusal = refused(quarter < 0 || quarter >= DAY || heard < 0 || heard > MOST_STROKES);
        if (refusal != 0) {
            return refusal;
        }
        return known.append(quarter, heard) ? known.many : FULL;
    }

    public int could(int what) {
        int refusal = refused(what < 0 || what > 3);
        if (refusal != 0) {
            return refusal;
        }
        known.findSets(house, now);
        switch (what) {
            case 0: return known.fitting;
            case 1: return known.leastSet();
            case 2: return known.sureIn();
            default: return known.sureOut(house);
        }
    }

    public int listen() {
        if (!house.open) {
            return NOT;
        }
        known.findSets(house, now);
        int least = known.fitting;
        int where = NONE;
        for (int q = 0; q < DAY; q++) {
            int greatest = known.greatestAlike(house, now, q);
            if (greatest < least) {
                least = greatest;
                where = q;
            }
        }
        return where;
    }

    public int muffled() {
        if (!house.open) {
            return NOT;
        }
        int numbers = 0;
        for (int k = 0; k <= MOST_TAKEN; k++) {
            if (known.fits(house, now, now.inside, k)) {
                numbers |= 1 << k;
            }
        }
        return numbers;
    }

    public int write(int d, int pints) {
        if (!house.hasDrinker(d)) {
            return UNKNOWN;
        }
        if (pints < 0 || pints > MOST_PINTS) {
            return OUTSIDE;
        }
        return book.append(d, pints) ? book.many : FULL;
    }

    public int tear() {
        int had = known.many + book.many;
        known.many = 0;
        book.many = 0;
        return had;
    }

    public int judge() {
        return book.firstWrong(now);
    }

    // ---- draws, images

    public int seed(int v) {
        if (v < 0) {
            return OUTSIDE;
        }
        int old = drawn;
        drawn = v;
        return old;
    }

    public int keep(int i) {
        Image image = imageOf(i);
        if (image == null) {
            return UNKNOWN;
        }
        image.evening.become(now);
        image.seedThen = drawn;
        image.kept = true;
        past.many = 0;
        return 1;
    }

    public int goBack(int i) {
        Image image = imageOf(i);
        if (image == null) {
            return UNKNOWN;
        }
        if (!image.kept) {
            return NOT;
        }
        now.become(image.evening);
        drawn = image.seedThen;
        past.many = 0;
        return 1;
    }

    private static int bit(int set, int place) {
        return set >> place & 1;
    }

    /** 0, or why it can't be: a number is OUTSIDE, or there is no INN. */
    private int refused(boolean outside) {
        if (outside) {
            return OUTSIDE;
        }
        return house.open ? 0 : NOT;
    }

    /** 0, or why n QUARTERS can't go by. */
    private int refusedQuarters(int n) {
        int refusal = refused(n < 1 || n > DAY);
        if (refusal != 0) {
            return refusal;
        }
        return now.gone > LAST_QUARTER ? FULL : 0;
    }

    /** What the DRAWS bring ahead of a QUARTER. */
    private void stir() {
        if (house.drinkers <= 0) {
            return;
        }
        int d = draw(house.drinkers);
        int deed = draw(6);
        if (deed == 0) {
            now.inside |= 1 << d;
        } else if (deed == 1) {
            now.inside &= ~(1 << d);
        } else if (deed == 2) {
            now.weather = draw(3);
        }
    }

    private int draw(int n) {
        drawn = drawn * 1103515245 + 12345 & 0x7fffffff;
        return n > 0 ? drawn / 65536 % n : 0;
    }

    /** GOERS who are LATE by k; the trial has the 96 QUARTERS that come. */
    private int lateBy(int k) {
        int start = trial.firstHeard(k, DAY);
        int set = 0;
        for (int g = 0; g < house.goers; g++) {
            int due = (Rows.at(house.mustBe, g) + DAY - now.gone % DAY) % DAY;
            if (start == NONE || start + Rows.at(house.walks, g) > due) {
                set |= 1 << g;
            }
        }
        return set;
    }

    /** Least common multiple of two, the LONGEST_ROUND at most. */
    private static int leastCommon(int a, int b) {
        if (a < 1 || b < 1) {
            return 1;
        }
        int multiple = a;
        // b steps reach a * b at the latest, which both divide
        for (int i = 1; i < b && multiple % b != 0 && multiple < LONGEST_ROUND; i++) {
            multiple += a;
        }
        return Math.min(multiple, LONGEST_ROUND);
    }

    /** How many of those IN come ahead of d for what is left over of the SHARE. */
    private int payersAhead(int d) {
        int many = 0;
        for (int e = 0; e < house.drinkers; e++) {
            int more = Rows.at(now.pints, e) - Rows.at(now.pints, d);
            if (bit(now.inside, e) == 1 && (more > 0 || more == 0 && e < d)) {
                many++;
            }
        }
        return many;
    }

    private Image imageOf(int i) {
        if (i == 0) {
            return firstImage;
        }
        return i == 1 ? secondImage : null;
    }

    /** Every row is used through here, so that no index is used that was not looked at. */
    private static final class Rows {
        static int at(int[] row, int i) {
            return row != null && i >= 0 && i < row.length ? row[i] : 0;
        }

        static void put(int[] row, int i, int value) {
            if (row != null && i >= 0 && i < row.length) {
                row[i] = value;
            }
        }

        static void zero(int[] row) {
            if (row == null) {
                return;
            }
            for (int i = 0; i < row.length; i++) {
                row[i] = 0;
            }
        }

        static void copy(int[] from, int[] to) {
            if (from == null || to == null) {
                return;
            }
            for (int i = 0; i < from.length && i < to.length; i++) {
                to[i] = from[i];
            }
        }

        static int sum(int[] row) {
            int all = 0;
            if (row == null) {
                return all;
            }
            for (int i = 0; i < row.length; i++) {
                all += row[i];
            }
            return all;
        }
    }

    /** THE INN as it is told. */
    private static final class Inn {
        final int[] every = new int[MOST_DRINKERS];
        final int[] bears = new int[MOST_DRINKERS];
        final int[] hundredths = new int[MOST_DRINKERS];
        final int[] mustBe = new int[MOST_GOERS];
        final int[] walks = new int[MOST_GOERS];
        final int[] signs = new int[MOST_SIGNALS];
        final int[] blanket = new int[DAY];
        boolean open;
        int echo;
        int takes;
        int wetDays;
        int drinkers;
        int sextons;
        int goers;
        int signals;

        void empty() {
            open = false;
            echo = 0;
            takes = 0;
            wetDays = 0;
            drinkers = 0;
            sextons = 0;
            goers = 0;
            signals = 0;
            Rows.zero(blanket);
        }

        boolean hasDrinker(int d) {
            return d >= 0 && d < drinkers;
        }

        boolean hasGoer(int g) {
            return g >= 0 && g < goers;
        }

        /** How many SETS of DRINKERS there are. */
        int sets() {
            return 1 << drinkers;
        }

        /** SIGNALS that are just so many STROKES. */
        int signalsOf(int strokes) {
            int set = 0;
            for (int s = 0; s < signals; s++) {
                if (Rows.at(signs, s) == strokes) {
                    set |= 1 << s;
                }
            }
            return set;
        }

        boolean sextonAt(int quarterOfDay) {
            return Rows.at(blanket, quarterOfDay) == 1;
        }

        /** HEARD of what the rope brings, when the BLANKET takes so many (0: it is off). */
        int echoed(int strokes, int taken) {
            int left = Math.max(0, strokes - taken);
            return left >= 1 ? left + echo : 0;
        }
    }

    /** THE TEXT, and how it is read into an INN. */
    private static final class Reader {
        private final int[] letters = new int[MOST_LETTERS];
        private int at;
        private int numberAt;
        private int fault;
        int many;
        int faultAt = NONE;

        boolean append(int letter) {
            if (many >= MOST_LETTERS) {
                return false;
            }
            Rows.put(letters, many, letter);
            many++;
            return true;
        }

        /** 0, or the number of the FAULT. */
        int read(Inn into) {
            at = 0;
            fault = 0;
            faultAt = NONE;
            into.empty();
            skipBlanks();
            for (int i = 0; i < MOST_LETTERS && at < many && fault == 0; i++) {
                readClause(into);
                skipBlanks();
            }
            return fault;
        }

        private void readClause(Inn into) {
            int word = Rows.at(letters, at);
            if (!into.open && word != 'b') {
                wrong(1, at);
                return;
            }
            switch (word) {
                case 'b': readBell(into); break;
                case 'd': readDrinker(into); break;
                case 's': readSexton(into); break;
                case 'g': readGoer(into); break;
                case 'n': readSignal(into); break;
                default: wrong(1, at);
            }
        }

        private void readBell(Inn into) {
            startClause(into.open);
            into.open = true;
            into.echo = readNumber(0, 1);
            into.takes = readNumber(0, MOST_TAKEN);
            into.wetDays = readNumber(0, 127);
            endClause();
        }

        private void readDrinker(Inn into) {
            startClause(into.drinkers >= MOST_DRINKERS);
            Rows.put(into.every, into.drinkers, readNumber(1, 40));
            Rows.put(into.bears, into.drinkers, readNumber(1, MOST_PINTS));
            Rows.put(into.hundredths, into.drinkers, readNumber(0, 100));
            endClause();
            into.drinkers++;
        }

        private void readSexton(Inn into) {
            startClause(into.sextons >= MOST_SEXTONS);
            int from = readNumber(0, DAY - 1);
            int length = readNumber(1, Math.min(24, DAY - from));
            endClause();
            into.sextons++;
            for (int i = 0; i < length && i < DAY; i++) {
                Rows.put(into.blanket, from + i, 1);
            }
        }

        private void readGoer(Inn into) {
            startClause(into.goers >= MOST_GOERS);
            Rows.put(into.mustBe, into.goers, readNumber(0, DAY - 1));
            Rows.put(into.walks, into.goers, readNumber(0, 40));
            endClause();
            into.goers++;
        }

        private void readSignal(Inn into) {
            startClause(into.signals >= MOST_SIGNALS);
            int strokes = readNumber(1, MOST_STROKES);
            if (into.signalsOf(strokes) != 0) {
                wrong(4, numberAt);
            }
            endClause();
            Rows.put(into.signs, into.signals, strokes);
            into.signals++;
        }

        private void startClause(boolean tooMany) {
            if (tooMany) {
                wrong(3, at);
            }
            at++;
        }

        private void endClause() {
            skipBlanks();
            if (at >= many || Rows.at(letters, at) != ';') {
                wrong(1, at);
            }
            at++;
        }

        private int readNumber(int least, int most) {
            skipBlanks();
            numberAt = at;
            int figures = 0;
            int value = 0;
            for (; at < many && isFigure(Rows.at(letters, at)); at++) {
                figures++;
                // more figures are a FAULT anyway, and would overflow
                if (figures <= MOST_FIGURES) {
                    value = value * 10 + Rows.at(letters, at) - '0';
                }
            }
            if (figures == 0) {
                wrong(1, numberAt);
            } else if (figures > MOST_FIGURES || value < least || value > most) {
                wrong(2, numberAt);
            }
            return value;
        }

        private void skipBlanks() {
            while (at < many && Rows.at(letters, at) == ' ') {
                at++;
            }
        }

        /** The first that is found is the first in THE TEXT: what is read behind it does not count. */
        private void wrong(int number, int place) {
            if (fault == 0) {
                fault = number;
                faultAt = place;
            }
        }

        private static boolean isFigure(int letter) {
            return letter >= '0' && letter <= '9';
        }
    }

    /** All of section 2: what can be undone, kept and tried. */
    private static final class Evening {
        final int[] pints = new int[MOST_DRINKERS];
        final int[] turns = new int[MOST_DRINKERS];
        // a QUARTER's place in these is its number left over by their length
        private final int[] heards = new int[MOST_LOGGED];
        private final int[] rungs = new int[MOST_LOGGED];
        int gone;
        int inside;
        int bell;
        int hung;
        int paid;
        int weather;

        void empty() {
            gone = 0;
            inside = 0;
            bell = 0;
            hung = 0;
            paid = 0;
            weather = 0;
            Rows.zero(pints);
            Rows.zero(turns);
        }

        void become(Evening other) {
            if (other == null) {
                return;
            }
            gone = other.gone;
            inside = other.inside;
            bell = other.bell;
            hung = other.hung;
            paid = other.paid;
            weather = other.weather;
            Rows.copy(other.pints, pints);
            Rows.copy(other.turns, turns);
            Rows.copy(other.heards, heards);
            Rows.copy(other.rungs, rungs);
        }

        int logs() {
            return Math.min(gone, MOST_LOGGED);
        }

        int heardAgo(int i) {
            return Rows.at(heards, (gone - 1 - i) % MOST_LOGGED);
        }

        int rungAgo(int i) {
            return Rows.at(rungs, (gone - 1 - i) % MOST_LOGGED);
        }

        boolean startsDay() {
            return gone % DAY == 0;
        }

        boolean isWet(Inn inn) {
            if (weather != 0) {
                return weather == 1;
            }
            return bit(inn.wetDays, gone / DAY % WEEK) == 1;
        }

        /** DRINKERS whose time it is in a QUARTER. */
        int due(Inn inn, int quarter) {
            int set = 0;
            for (int d = 0; d < inn.drinkers; d++) {
                int every = Rows.at(inn.every, d);
                if (every > 0 && (quarter + Rows.at(turns, d)) % every == 0) {
                    set |= 1 << d;
                }
            }
            return set;
        }

        /** DRINKERS who bear no more in the QUARTER that comes next. */
        int full(Inn inn) {
            int set = 0;
            if (startsDay()) {
                return set;
            }
            for (int d = 0; d < inn.drinkers; d++) {
                if (Rows.at(pints, d) >= Rows.at(inn.bears, d)) {
                    set |= 1 << d;
                }
            }
            return set;
        }

        /** DRINKERS who ring in the QUARTER that comes next. */
        int thirsty(Inn inn) {
            return due(inn, gone) & inside & ~full(inn);
        }

        /** HEARD in the QUARTER that comes next, if so many ring. */
        int heardOf(Inn inn, int rung) {
            boolean covered = hung > 0 || inn.sextonAt(gone % DAY);
            return inn.echoed(isWet(inn) ? rung / 2 : rung, covered ? inn.takes : 0);
        }

        /** A QUARTER goes by: HEARD. */
        int pass(Inn inn) {
            int ringers = thirsty(inn);
            int rung = Integer.bitCount(ringers);
            int heard = heardOf(inn, rung);
            if (startsDay()) {
                Rows.zero(pints);
            }
            for (int d = 0; d < inn.drinkers; d++) {
                Rows.put(pints, d, Rows.at(pints, d) + bit(ringers, d));
            }
            paid += rung;
            Rows.put(heards, gone % MOST_LOGGED, heard);
            Rows.put(rungs, gone % MOST_LOGGED, rung);
            if (heard >= 1) {
                bell = (bell + 1) % HOURS;
            }
            hung = Math.max(0, hung - 1);
            gone++;
            return heard;
        }
    }

    /** What can be UNDONE: evenings, the oldest first. */
    private static final class Past {
        private final Evening[] evenings = new Evening[MOST_UNDONE];
        int many;

        Past() {
            for (int i = 0; i < evenings.length; i++) {
                evenings[i] = new Evening();
            }
        }

        void note(Evening now) {
            if (many >= MOST_UNDONE) {
                loseOldest();
            }
            Evening free = evening(many);
            if (free != null) {
                free.become(now);
                many++;
            }
        }

        boolean restore(Evening now) {
            Evening latest = evening(many - 1);
            if (latest == null) {
                return false;
            }
            many--;
            now.become(latest);
            return true;
        }

        private Evening evening(int i) {
            return i >= 0 && i < evenings.length ? evenings[i] : null;
        }

        /** The oldest goes behind all others, to be used again. */
        private void loseOldest() {
            for (int i = 1; i < evenings.length; i++) {
                Evening oldest = evenings[i - 1];
                evenings[i - 1] = evenings[i];
                evenings[i] = oldest;
            }
            many--;
        }
    }

    private static final class Image {
        final Evening evening = new Evening();
        int seedThen;
        boolean kept;
    }

    /** What is HEARD in QUARTERS that come, as nobody comes or goes. */
    private static final class Trial {
        final Evening evening = new Evening();
        final int[] heards = new int[TWO_DAYS];

        void run(Inn inn, Evening now, int n) {
            evening.become(now);
            for (int i = 0; i < n && i < TWO_DAYS; i++) {
                Rows.put(heards, i, evening.pass(inn));
            }
        }

        /** The first of n QUARTERS with k STROKES or more; NONE. */
        int firstHeard(int k, int n) {
            for (int i = 0; i < n && i < TWO_DAYS; i++) {
                if (Rows.at(heards, i) >= k) {
                    return i;
                }
            }
            return NONE;
        }
    }

    /** WAS, and the SETS of DRINKERS by which it is so. */
    private static final class Known {
        private final int[] quarters = new int[MOST_WAS];
        private final int[] heards = new int[MOST_WAS];
        private final int[] sets = new int[1 << MOST_DRINKERS];
        private final int[] alike = new int[MOST_STROKES + 1];
        int many;
        int fitting;

        boolean append(int quarter, int heard) {
            if (many >= MOST_WAS) {
                return false;
            }
            Rows.put(quarters, many, quarter);
            Rows.put(heards, many, heard);
            many++;
            return true;
        }

        void findSets(Inn inn, Evening now) {
            fitting = 0;
            for (int set = 0; set < inn.sets(); set++) {
                if (fits(inn, now, set, inn.takes)) {
                    Rows.put(sets, fitting, set);
                    fitting++;
                }
            }
        }

        /** All WAS is so, with these IN and a BLANKET that takes so many. */
        boolean fits(Inn inn, Evening now, int set, int takes) {
            for (int i = 0; i < many; i++) {
                int q = Rows.at(quarters, i);
                if (heardBy(inn, set & now.due(inn, q), q, takes) != Rows.at(heards, i)) {
                    return false;
                }
            }
            return true;
        }

        int leastSet() {
            return fitting > 0 ? Rows.at(sets, 0) : NONE;
        }

        int sureIn() {
            int sure = leastSet();
            for (int i = 0; i < fitting; i++) {
                sure &= Rows.at(sets, i);
            }
            return fitting > 0 ? sure : 0;
        }

        int sureOut(Inn inn) {
            int some = 0;
            for (int i = 0; i < fitting; i++) {
                some |= Rows.at(sets, i);
            }
            return fitting > 0 ? inn.sets() - 1 & ~some : 0;
        }

        /** The greatest part of the SETS with which as many are HEARD in a QUARTER. */
        int greatestAlike(Inn inn, Evening now, int q) {
            int due = now.due(inn, q);
            int greatest = 0;
            Rows.zero(alike);
            for (int i = 0; i < fitting; i++) {
                int heard = heardBy(inn, Rows.at(sets, i) & due, q, inn.takes);
                int part = Rows.at(alike, heard) + 1;
                Rows.put(alike, heard, part);
                greatest = Math.max(greatest, part);
            }
            return greatest;
        }

        private static int heardBy(Inn inn, int ringers, int q, int takes) {
            return inn.echoed(Integer.bitCount(ringers), inn.sextonAt(q) ? takes : 0);
        }
    }

    /** THE BOOK of PINTS. */
    private static final class Book {
        private final int[] drinkers = new int[MOST_WRITTEN];
        private final int[] pints = new int[MOST_WRITTEN];
        int many;

        boolean append(int d, int had) {
            if (many >= MOST_WRITTEN) {
                return false;
            }
            Rows.put(drinkers, many, d);
            Rows.put(pints, many, had);
            many++;
            return true;
        }

        int firstWrong(Evening now) {
            for (int i = 0; i < many; i++) {
                if (Rows.at(now.pints, Rows.at(drinkers, i)) != Rows.at(pints, i)) {
                    return i;
                }
            }
            return NONE;
        }
    }

    /** A MILLION that lies at how many ring. */
    private static final class Chances {
        private final int[] lies = new int[MOST_DRINKERS + 1];

        void restart() {
            Rows.zero(lies);
            Rows.put(lies, 0, MILLION);
        }

        /** From the top down, so that nothing goes up twice. */
        void lift(int hundredths) {
            for (int n = MOST_DRINKERS - 1; n >= 0; n--) {
                int up = Rows.at(lies, n) * hundredths / 100;
                Rows.put(lies, n, Rows.at(lies, n) - up);
                Rows.put(lies, n + 1, Rows.at(lies, n + 1) + up);
            }
        }

        int above(int k) {
            int all = 0;
            for (int n = k; n <= MOST_DRINKERS; n++) {
                all += Rows.at(lies, n);
            }
            return all;
        }
    }
}

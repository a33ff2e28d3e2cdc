import java.util.function.ToIntFunction;

/** Section 1 THE INN at its edges: bounds of each NUMBER, FAULTS and of which letter each is told, what is full. */
public final class TextEdgesTest {
    private static final int FULL = BellRope.FULL;
    private static final int NOT = BellRope.NOT;
    private static final int UNKNOWN = BellRope.UNKNOWN;
    private static final String B = "b0 0 0;";
    private static final String WHOLE = " b 1 2 3 ; d 4 5 6 ; s 7 8 ; g 9 10 ; n 11 ; ";

    public static void main(String[] args) {
        letters();
        bell();
        drinker();
        sexton();
        beyondTheDay();
        goer();
        signal();
        figures();
        blanks();
        onlyBlanksAreBlank();
        words();
        bellFirst();
        bellOnce();
        howMany();
        eachOnce();
        leastOfALetter();
        firstLetter();
        theEnd();
        shorterAndShorter();
        emptyText();
        emptyEndsTheInn();
        textIsEmptyThen();
        faultChangesNothing();
        innBeginsAnew();
        emptyBeginsAnew();
        faultOfTheLatest();
        Checks.end();
    }

    private static BellRope told(String text, int answer, int place) {
        BellRope x = new BellRope();
        Checks.due("inn() of \"" + text + "\"", Checks.tell(x, text), answer);
        Checks.due("fault() of \"" + text + "\"", x.fault(), place);
        return x;
    }

    private static void letters() {
        Checks.part("240 letters at most");
        BellRope x = new BellRope();
        String text = B + " ".repeat(226) + "n1;n2;n";
        for (int i = 0; i < 240; i++) {
            Checks.due("feed(), letter " + i, x.feed(text.charAt(i)), i + 1);
        }
        Checks.row("feed(), the 241st", new int[] {x.feed('3'), x.feed(0), x.feed(255)}, FULL, FULL, FULL);
        Checks.row("told(5), inn(), fault()", new int[] {x.told(5), x.inn(), x.fault()}, 240, -11, 240);
        Checks.feed(x, B + " ".repeat(225) + "n1;n2;n3;");
        Checks.row("inn(), told(4): what was FULL is not of THE TEXT", new int[] {x.inn(), x.fault(), x.told(4)}, -11, 240, 0);
        Checks.feed(x, B + " ".repeat(224) + "n1;n2;n3;");
        Checks.row("inn(), told(4) of 240 letters", new int[] {x.inn(), x.fault(), x.told(4)}, 0, -1, 3);
        Checks.feed(x, B + " ".repeat(224) + "n1;n2;n3;x");
        Checks.row("inn(), told(4), the 241st was refused", new int[] {x.inn(), x.fault(), x.told(4)}, 0, -1, 3);
    }

    /** A NUMBER of a clause: on its bounds it is told, beyond them it is FAULT 2 at its first. */
    private static void number(String ahead, int least, int most, String behind, ToIntFunction<BellRope> asked) {
        Checks.part("NUMBER " + least + " .. " + most + " in \"" + ahead + "_" + behind + "\"");
        for (int n : new int[] {least, least + 1, most - 1, most}) {
            BellRope x = new BellRope();
            int answer = Checks.tell(x, ahead + n + behind);
            Checks.due(answer >= 0 && x.fault() == -1, "inn() of " + n + " answered " + answer);
            Checks.due("what was told as " + n, asked.applyAsInt(x), n);
        }
        for (int n : new int[] {least - 1, most + 1, 999}) {
            // one below 0 cannot be told: its sign cannot stand there
            told(ahead + n + behind, n < 0 ? -11 : -12, ahead.length());
        }
        for (String n : new String[] {"1000", "000" + least, "2147483647", "2147483648", "4294967296", "4294967297", "18446744073709551617"}) {
            told(ahead + n + behind, -12, ahead.length());
        }
        told(ahead + Integer.MIN_VALUE + behind, -11, ahead.length());
    }

    private static void bell() {
        number("b", 0, 1, " 0 0;", x -> x.told(0));
        number("b0 ", 0, 9, " 0;", x -> x.told(1));
        number("b0 0 ", 0, 127, ";", TextEdgesTest::wetDays);
    }

    /** W, by what the seven days are. */
    private static int wetDays(BellRope x) {
        int set = 0;
        for (int day = 0; day < 7; day++) {
            set |= x.told(9) << day;
            x.quarter(96);
        }
        return set;
    }

    private static void drinker() {
        number(B + "d", 1, 40, " 1 0;", x -> x.drinker(0, 0));
        number(B + "d1 ", 1, 20, " 0;", x -> x.drinker(0, 1));
        number(B + "d1 1 ", 0, 100, ";", x -> x.drinker(0, 2));
        number(B + "d2 2 2;d", 1, 40, " 1 0;", x -> x.drinker(1, 0));
    }

    private static void sexton() {
        String whole = "b0 9 0;d1 20 0;d1 20 0;d1 20 0;d1 20 0;d1 20 0;";
        number(whole + "s", 0, 95, " 1;", x -> blanketOn(x)[0]);
        number(whole + "s0 ", 1, 24, ";", x -> blanketOn(x)[1]);
        number(whole + "s71 ", 1, 24, ";", x -> blanketOn(x)[1]);
        number(whole + "s9 3;s72 ", 1, 24, ";", x -> blanketOn(x)[1] - 3);
    }

    /** The first of a day's QUARTERS with the BLANKET on, and how many there are: five ring in turn, each 20 times. */
    private static int[] blanketOn(BellRope x) {
        int first = -1;
        int many = 0;
        for (int q = 0; q < 96; q++) {
            if (q % 20 == 0) {
                x.come(q / 20);
            }
            if (x.quarter(1) == 0) {
                first = first < 0 ? q : first;
                many++;
            }
        }
        return new int[] {first, many};
    }

    private static void beyondTheDay() {
        Checks.part("an L that goes beyond 95 is FAULT 2, at its first");
        for (int a = 71; a <= 95; a++) {
            int most = Math.min(24, 96 - a);
            told(B + "s" + a + " " + most + ";", 0, -1);
            told(B + "s" + a + "  " + (most + 1) + ";", -12, 12);
            told(B + "s" + a + " 24;", a > 72 ? -12 : 0, a > 72 ? 11 : -1);
        }
        told(B + "s96 1;", -12, 8);
        told(B + "s96 0;", -12, 8);
        told(B + "s120 24;", -12, 8);
    }

    private static void goer() {
        number(B + "g", 0, 95, " 0;", x -> x.goer(0, 0));
        number(B + "g0 ", 0, 40, ";", x -> x.goer(0, 1));
        number(B + "g9 9;g0 ", 0, 40, ";", x -> x.goer(1, 1));
    }

    private static void signal() {
        number(B + "n", 1, 16, ";", x -> x.signal(0));
        number(B + "n5;n", 1, 16, ";", x -> x.signal(1));
    }

    private static void figures() {
        Checks.part("NUMBERS have one to three figures");
        BellRope x = told("b1 01 001;d1 01 001;d012 12 012;", 2, -1);
        Checks.row("K, drinkers", new int[] {x.told(1), x.drinker(0, 0), x.drinker(0, 1), x.drinker(0, 2), x.drinker(1, 0), x.drinker(1, 1), x.drinker(1, 2)},
            1, 1, 1, 1, 12, 12, 12);
        told("b0000 0 0;", -12, 1);
        told("b000 0001 0;", -12, 5);
        told("b000 000 0000;", -12, 9);
        told("b000 000 00000000;", -12, 9);
        told("b ;", -11, 2);
        told("b0 ;", -11, 3);
        told("b0 0;", -11, 4);
        told("b0 0 0 0;", -11, 7);
        told(B + "d1 1;", -11, 11);
        told(B + "d1 1 1 1;", -11, 14);
        told(B + "s1;", -11, 9);
        told(B + "s1 1 1;", -11, 12);
        told(B + "g1;", -11, 9);
        told(B + "g1 1 1;", -11, 12);
        told(B + "n;", -11, 8);
        told(B + "n1 1;", -11, 10);
    }

    private static void blanks() {
        Checks.part("blanks may stand anywhere but within NUMBERS");
        BellRope x = told(WHOLE.replace(" ", "   ").replace("   b", " b"), 1, -1);
        Checks.row("what was told", new int[] {x.told(0), x.told(1), x.told(9), x.drinker(0, 0), x.drinker(0, 1), x.drinker(0, 2), x.goer(0, 0), x.goer(0, 1), x.signal(0)},
            1, 2, 1, 4, 5, 6, 9, 10, 11);
        told("b1 2 3;d4 5 6;s7 8;g9 10;n11;", 1, -1);
        told("b1 2 1 2;", -11, 7);
        told(B + "n1 1;", -11, 10);
        told(B + "g9 1 0;", -11, 12);
        Checks.part("two NUMBERS side by side need one");
        told("b10 0;", -12, 1);
        told("b00 0;", -11, 5);
        told("b000;", -11, 4);
        told(B + "g10 ;", -11, 11);
        told(B + "g1010;", -12, 8);
    }

    private static void onlyBlanksAreBlank() {
        Checks.part("blanks (32)");
        for (int letter = 0; letter <= 255; letter++) {
            char c = (char) letter;
            boolean figure = c >= '0' && c <= '9';
            boolean blank = c == ' ';
            told(c + B, blank ? 0 : -11, blank ? -1 : c == 'b' ? 1 : 0);
            told("b" + c + "1 0 0;", blank || c == '0' ? 0 : figure ? -12 : -11, blank || c == '0' ? -1 : 1);
            told("b0" + c + "0 0;", blank ? 0 : figure && c != '0' ? -12 : -11, blank ? -1 : figure && c != '0' ? 1 : figure ? 6 : 2);
            told("b0 0 0" + c + ";", blank || figure ? 0 : -11, blank || figure ? -1 : c == ';' ? 7 : 6);
        }
    }

    private static void words() {
        Checks.part("FAULT 1: a letter that is no word");
        for (int letter = 0; letter <= 255; letter++) {
            char c = (char) letter;
            boolean word = "dsgn".indexOf(c) >= 0;
            told(B + c, c == ' ' ? 0 : c == 'b' ? -13 : -11, c == ' ' ? -1 : word ? 8 : 7);
            told(B + "n1;" + c, c == ' ' ? 0 : c == 'b' ? -13 : -11, c == ' ' ? -1 : word ? 11 : 10);
        }
    }

    private static void bellFirst() {
        Checks.part("FAULT 1: another word first than 'b'");
        for (int letter = 0; letter <= 255; letter++) {
            char c = (char) letter;
            if (c != 'b' && c != ' ') {
                told("" + c, -11, 0);
                told("  " + c + "1 1 1;" + B, -11, 2);
            }
        }
        told("d1 1 1;" + B, -11, 0);
        told("s1 1;" + B, -11, 0);
        told("g1 1;" + B, -11, 0);
        told("n1;" + B, -11, 0);
    }

    private static void bellOnce() {
        Checks.part("FAULT 3: 'b' again, at it");
        told(B + B, -13, 7);
        told(B + "  b", -13, 9);
        told(B + "d1 1 1; b9 99 999;", -13, 15);
        told(B + "s1 1;b", -13, 12);
        told(B + "g1 1;b", -13, 12);
        told(B + "n1;b", -13, 10);
    }

    private static void howMany() {
        Checks.part("7 DRINKERS, 4 SEXTON's, 6 GOERS, 5 SIGNALS at most: one more is FAULT 3, at it");
        String[] ahead = {"d1 1 1;", "s1 1;", "g1 1;"};
        int[] most = {7, 4, 6};
        for (int i = 0; i < 3; i++) {
            String full = B + ahead[i].repeat(most[i]);
            told(B + ahead[i].repeat(most[i] - 1), i == 0 ? 6 : 0, -1);
            told(full, i == 0 ? 7 : 0, -1);
            told(full + ahead[i], -13, full.length());
            told(full + "  " + ahead[i].charAt(0), -13, full.length() + 2);
            told(full + ahead[i].charAt(0) + "999", -13, full.length());
        }
        told(B + "n1;n2;n3;n4;", 0, -1);
        told(B + "n1;n2;n3;n4;n16;", 0, -1);
        told(B + "n1;n2;n3;n4;n16;n6;", -13, 23);
        told(B + "n1;n2;n3;n4;n16; n1;", -13, 24);
        String all = B + "d1 1 1;".repeat(7) + "s1 1;".repeat(4) + "g1 1;".repeat(6) + "n1;n2;n3;n4;n5;";
        BellRope x = told(all, 7, -1);
        Checks.row("told(2), (3), (4)", new int[] {x.told(2), x.told(3), x.told(4)}, 7, 6, 5);
        for (String word : new String[] {"b", "d", "s", "g", "n"}) {
            told(all + word, -13, all.length());
        }
    }

    private static void eachOnce() {
        Checks.part("FAULT 4: an N that was told, at it");
        told(B + "n1;n1;", -14, 11);
        told(B + "n16;n16;", -14, 12);
        told(B + "n7;n  007;", -14, 13);
        told(B + "n7;n8;n9;n10;n7", -14, 21);
        told(B + "n7;n8;n9;n10;n10", -14, 21);
        told(B + "n1;n11;n10;", 0, -1);
    }

    private static void leastOfALetter() {
        Checks.part("of the FAULTS of a letter the least");
        // a NUMBER that cannot stand there, of four figures
        told("b0 0 0 0000;", -11, 7);
        told(B + "0000", -11, 7);
        told("0000", -11, 0);
        // a 'b' again and an eighth 'd' where no word can stand
        told("b0 b", -11, 3);
        told(B + "d1 1 b", -11, 12);
        String seven = B + "d1 1 1;".repeat(6) + "d1 1 ";
        told(seven + "d", -11, seven.length());
        // an N that was told, of four figures
        told(B + "n7;n0007;", -12, 11);
        // a sixth 'n' of an N that was told
        told(B + "n1;n2;n3;n4;n5;n5;", -13, 22);
    }

    private static void firstLetter() {
        Checks.part("FAULTS at the first letter that has one");
        told("b2 10 128;x", -12, 1);
        told("b0 10 128;x", -12, 3);
        told("b0 0 128;x", -12, 5);
        told("b0 0 128", -12, 5);
        told("b2", -12, 1);
        told("b2x", -12, 1);
        told("b0000x", -12, 1);
        told(B + "s95 2x", -12, 11);
        told(B + "d0 0 101;" + B, -12, 8);
        told(B + "d1 0 101;" + B, -12, 10);
        told(B + "d1 1 101;" + B, -12, 12);
        told(B + B + "x", -13, 7);
        told(B + "n1;n1x", -14, 11);
        told(B + "n1;n1 1;", -14, 11);
        told(B + "n1;n1;n0;", -14, 11);
        told(B + "n1;n0;n1;", -12, 11);
        told(B + "x" + B, -11, 7);
    }

    private static void theEnd() {
        Checks.part("FAULT 1 at the end: the text's length");
        for (int n = 0; n <= WHOLE.length(); n++) {
            String text = WHOLE.substring(0, n);
            String bare = text.replace(" ", "");
            boolean ended = bare.isEmpty() || bare.endsWith(";");
            told(text, !ended ? -11 : bare.contains("d") ? 1 : 0, ended ? -1 : n);
        }
        told("b   ", -11, 4);
        told("b0 0 0   ", -11, 9);
        told(" ".repeat(239) + "b", -11, 240);
    }

    private static void emptyText() {
        Checks.part("an empty text (or one of blanks alone) has no FAULT: no INN");
        for (int blanks : new int[] {0, 1, 2, 239, 240}) {
            BellRope x = told(" ".repeat(blanks), 0, -1);
            Checks.row("quarter, noon, come, told(2)", new int[] {x.quarter(1), x.noon(), x.come(0), x.told(2)}, NOT, NOT, UNKNOWN, 0);
            Probe.same("another than a new object", x, new BellRope());
        }
        BellRope inn = told(B, 0, -1);
        Checks.row("quarter, noon, come with an INN of nobody", new int[] {inn.quarter(1), inn.noon(), inn.come(0)}, 0, -1, UNKNOWN);
    }

    private static void emptyEndsTheInn() {
        Checks.part("an empty text: no INN, THE SEED stays");
        for (String text : new String[] {"", "   "}) {
            BellRope x = Probe.evening();
            Checks.due("inn()", Checks.tell(x, text), 0);
            int seed = x.seed(0);
            x.seed(seed);
            Checks.due(seed != 0, "THE SEED does not stay");
            BellRope y = new BellRope();
            y.seed(seed);
            Probe.same("another than a new object", x, y);
        }
    }

    private static void textIsEmptyThen() {
        Checks.part("THE TEXT is empty then, with a FAULT, too");
        String[] texts = {B, "", "x", B + B, "b2", B + "n1;n1", "b"};
        int[] answers = {0, 0, -11, -13, -12, -14, -11};
        BellRope x = new BellRope();
        for (int i = 0; i < texts.length; i++) {
            Checks.due("inn() of \"" + texts[i] + "\"", Checks.tell(x, texts[i]), answers[i]);
            Checks.row("told(5), feed", new int[] {x.told(5), x.feed(' ')}, 0, 1);
        }
    }

    private static void faultChangesNothing() {
        Checks.part("-10 less the number of its FAULT: all else is as it was");
        String[] texts = {"x", "b2 0 0;", B + "b", B + "n1;n1;", "b0 9 127;d1 1 1;d2 2 2;d3 3 3;s1 9;g5 5;n7;n7;"};
        int[] answers = {-11, -12, -13, -14, -14};
        for (int i = 0; i < texts.length; i++) {
            BellRope x = Probe.evening();
            Checks.due("inn() of \"" + texts[i] + "\"", Checks.tell(x, texts[i]), answers[i]);
            Checks.due("inn() of \"" + texts[i] + "\" again", Checks.tell(x, texts[i]), answers[i]);
            Probe.sameButFault("\"" + texts[i] + "\" changed something", x, Probe.evening());
        }
    }

    private static void innBeginsAnew() {
        Checks.part("QUARTER 0, nobody IN, THE LOG is empty; nothing known, no BOOK; IMAGES, what could be undone are gone");
        String whole = "b1 9 127;" + "d9 9 9;".repeat(7) + "s0 24;s24 24;s48 24;s72 24;" + "g5 5;".repeat(6) + "n1;n2;n3;n4;n5;";
        for (int times = 0; times < 4; times++) {
            BellRope x = times % 2 == 0 ? Probe.evening() : new BellRope();
            int seed = x.seed(4);
            Checks.due("THE SEED ahead of it, is it another than 0", seed != 0 ? 1 : 0, times % 2 == 0 ? 1 : 0);
            for (int i = 0; i < times; i++) {
                Checks.due("inn() of the whole", Checks.tell(x, whole), 7);
            }
            Checks.due("inn() behind " + times, Checks.tell(x, Probe.BUSY), 3);
            BellRope y = Checks.open(Probe.BUSY);
            y.seed(4);
            Probe.same("another than one that is new", x, y);
        }
    }

    private static void emptyBeginsAnew() {
        Checks.part("an empty text leaves nothing of what was told");
        String whole = "b1 9 127;d9 9 9;s0 24;g5 5;n1;";
        for (int times = 1; times < 5; times++) {
            BellRope x = new BellRope();
            for (int i = 0; i < times; i++) {
                Checks.due("inn() of the whole", Checks.tell(x, whole), 1);
                x.come(0);
            }
            Checks.due("inn() of nothing", x.inn(), 0);
            Probe.same("another than a new object", x, new BellRope());
        }
    }

    /** What stood behind THE TEXT once is not of it. */
    private static void shorterAndShorter() {
        Checks.part("FAULT 1 at the end, whatever stood there");
        for (int n = WHOLE.length() - 2; n > WHOLE.length() - 14; n--) {
            BellRope x = new BellRope();
            for (int i = 0; i < 6; i++) {
                String text = WHOLE.substring(0, Math.max(0, n - i * 7));
                boolean ended = text.replace(" ", "").isEmpty() || text.replace(" ", "").endsWith(";");
                Checks.tell(x, text);
                Checks.due("fault() of \"" + text + "\" behind longer ones", x.fault(), ended ? -1 : text.length());
            }
        }
        BellRope figures = new BellRope();
        Checks.tell(figures, "b0 0 127;");
        Checks.row("a NUMBER that ended there", new int[] {Checks.tell(figures, "b0 0 1"), figures.fault()}, -11, 6);
        Checks.tell(figures, "b0 0    ;");
        Checks.row("blanks that ended there", new int[] {Checks.tell(figures, "b0 0 "), figures.fault()}, -11, 5);
        Checks.tell(figures, "b0 0 9;");
        Checks.row("a ';' that stood there", new int[] {Checks.tell(figures, "b0 0 9"), figures.fault()}, -11, 6);
    }

    private static void faultOfTheLatest() {
        Checks.part("fault(): of the latest inn(); NONE");
        BellRope x = new BellRope();
        Checks.due("fault() of no inn()", x.fault(), -1);
        Checks.tell(x, " x");
        Checks.feed(x, B);
        Checks.due("fault() ahead of the next inn()", x.fault(), 1);
        x.inn();
        Checks.due("fault() of none", x.fault(), -1);
        Checks.tell(x, "b0 0 0;n1;n1;");
        Checks.due("fault()", x.fault(), 11);
        x.inn();
        Checks.due("fault() of an empty text", x.fault(), -1);
    }
}

/** Section 2 QUARTERS at its edges, and what begins anew: a day, the seven days of WET, the BELL's hour, THE SEED. */
public final class AnewTest {
    private static final int NONE = BellRope.NONE;

    public static void main(String[] args) {
        setsOfDrinkers();
        whatItWas();
        firstQuarterOfADay();
        pintsOfTheDayAhead();
        pintsOfWhoIsNotIn();
        fewerThanHeBears();
        thirstyByTurn();
        quartersGoOnBeyondADay();
        halfOfWet();
        blanketTakes();
        blanketFromTo();
        blanketEachDay();
        hungForTheNext();
        hungBesideTheSexton();
        echoOfWhatIsLeft();
        sevenDays();
        wetChangesAtTheDay();
        rainForAllDays();
        twelveIsZero();
        hourStaysUnheard();
        treatedToZero();
        paidGoesOn();
        seedLeftOver();
        drawsOfEachDeed();
        drawsAheadOfEach();
        drawsWithoutDrinkers();
        imagesKeepTheSeed();
        Checks.end();
    }

    private static void setsOfDrinkers() {
        Checks.part("a SET: bit k for k (of DRINKERS); COME, GONE");
        BellRope x = Checks.open("b0 0 0;" + "d1 20 0;".repeat(7));
        for (int d = 0; d < 7; d++) {
            Checks.row("come(" + d + ")", new int[] {x.drinker(d, 3), x.come(d), x.told(7), x.drinker(d, 3)}, 0, (2 << d) - 1, (2 << d) - 1, 1);
        }
        for (int d = 0; d < 7; d++) {
            int left = 127 - ((2 << d) - 1);
            Checks.row("go(" + d + ")", new int[] {x.drinker(d, 3), x.go(d), x.told(7), x.drinker(d, 3)}, 1, left, left, 0);
        }
    }

    private static void whatItWas() {
        Checks.part("turn, hang, rain, seed: what it was");
        BellRope x = Checks.open("b0 0 0;d1 20 0;d1 20 0;");
        Checks.row("turn", new int[] {x.turn(1, 39), x.turn(1, 38), x.turn(1, 0), x.turn(1, 1), x.turn(0, 1), x.drinker(1, 5)}, 0, 39, 38, 0, 0, 1);
        Checks.row("hang", new int[] {x.hang(96), x.hang(0), x.hang(1), x.hang(0), x.told(10)}, 0, 96, 0, 1, 0);
        Checks.row("rain", new int[] {x.rain(1), x.rain(2), x.rain(0), x.rain(2), x.told(13)}, 0, 1, 2, 0, 2);
        Checks.row("seed", new int[] {x.seed(2147483647), x.seed(0), x.seed(1), x.seed(0)}, 0, 2147483647, 0, 1);
    }

    private static void firstQuarterOfADay() {
        Checks.part("at the first QUARTER of a day (k left over by 96 is 0) all PINTS are 0");
        BellRope x = Checks.open("b0 0 0;d1 5 0;", 0);
        for (int day = 0; day < 3; day++) {
            Checks.row("HEARD on day " + day, Checks.heard(x, 6), 1, 1, 1, 1, 1, 0);
            Checks.due("quarter(89)", x.quarter(89), 0);
            Checks.row("drinker(0, 4), (6) at 95", new int[] {x.drinker(0, 4), x.drinker(0, 6), x.strikes(0), x.strikes(1)}, 5, 0, 0, 1);
            Checks.due("quarter(1), the last", x.quarter(1), 0);
            Checks.row("drinker(0, 4), (6) at 96", new int[] {x.drinker(0, 4), x.drinker(0, 6), x.strikes(0)}, 5, 1, 1);
        }
        Checks.row("told(6), (11)", new int[] {x.told(6), x.told(11)}, 288, 15);
    }

    private static void pintsOfTheDayAhead() {
        Checks.part("till it goes by, PINTS today are those of the day ahead of it");
        BellRope x = Checks.open("b0 0 0;d1 7 0;d32 9 0;", 0, 1);
        x.write(0, 7);
        x.quarter(96);
        Checks.row("PINTS, most, share, judge, odds at 96",
            new int[] {x.drinker(0, 4), x.drinker(1, 4), x.most(), x.share(0), x.share(1), x.judge(), x.odds(0), x.odds(1)}, 7, 3, 0, 5, 5, NONE, 1000000, 0);
        Checks.due("treat(0, 3) of the day ahead", x.treat(0, 3), 4);
        x.quarter(1);
        Checks.row("PINTS, most, share, judge at 97", new int[] {x.drinker(0, 4), x.drinker(1, 4), x.most(), x.share(0), x.share(1), x.judge()}, 1, 1, 0, 1, 1, 0);
    }

    private static void pintsOfWhoIsNotIn() {
        Checks.part("all PINTS, of those who are not IN, too");
        BellRope x = Checks.open("b0 0 0;d1 7 0;", 0);
        x.quarter(9);
        x.go(0);
        x.quarter(87);
        Checks.due("drinker(0, 4) at 96", x.drinker(0, 4), 7);
        x.quarter(1);
        Checks.due("drinker(0, 4) at 97", x.drinker(0, 4), 0);
    }

    private static void fewerThanHeBears() {
        Checks.part("with fewer PINTS than he bears");
        for (int p : new int[] {1, 2, 19, 20}) {
            BellRope x = Checks.open("b0 0 0;d1 " + p + " 0;", 0);
            for (int i = 0; i < 25; i++) {
                int due = i < p ? 1 : 0;
                Checks.row("drinker(0, 6), quarter(1), PINTS of " + p + " behind " + i, new int[] {x.drinker(0, 6), x.quarter(1), x.drinker(0, 4)},
                    due, due, Math.min(i + 1, p));
            }
            Checks.row("treat(0, 1), drinker(0, 6), quarter(2)", new int[] {x.treat(0, 1), x.drinker(0, 6), x.quarter(1), x.quarter(1)}, p - 1, 1, 1, 0);
        }
    }

    private static void thirstyByTurn() {
        Checks.part("THIRSTY, if (k and his TURN) left over by T is 0 (TURN: 0 at first)");
        for (int t : new int[] {1, 2, 39, 40}) {
            for (int turn : new int[] {0, 1, 38, 39}) {
                BellRope x = Checks.open("b0 0 0;d" + t + " 20 0;");
                Checks.due("drinker(0, 5) at first", x.drinker(0, 5), 0);
                x.turn(0, turn);
                Checks.due("drinker(0, 6), who is not IN", x.drinker(0, 6), 0);
                x.come(0);
                for (int k = 0; k < 82; k++) {
                    int due = (k + turn) % t == 0 && x.drinker(0, 4) < 20 ? 1 : 0;
                    Checks.row("drinker(0, 6), quarter(1) of T " + t + ", TURN " + turn + " at " + k, new int[] {x.drinker(0, 6), x.quarter(1)}, due, due);
                }
            }
        }
    }

    private static void quartersGoOnBeyondADay() {
        Checks.part("k is counted on beyond a day");
        BellRope x = Checks.open("b0 0 0;d36 20 0;", 0);
        // 0, 36, 72, 108, 144, 180, 216: on day 1 not as on day 0
        for (int k = 0; k < 220; k++) {
            Checks.due("quarter(1) at " + k, x.quarter(1), k % 36 == 0 ? 1 : 0);
        }
    }

    /** All seven ring, then one goes after the other. */
    private static int[] fromSevenDown(String bell) {
        BellRope x = Checks.open(bell + "d1 20 0;".repeat(7) + "s0 24;", 0, 1, 2, 3, 4, 5, 6);
        int[] row = new int[8];
        for (int d = 0; d < 7; d++) {
            row[d] = x.quarter(1);
            Checks.due("RUNG", x.logged(0, 1), 7 - d);
            x.go(d);
        }
        row[7] = x.quarter(1);
        return row;
    }

    private static void halfOfWet() {
        Checks.part("RUNG / 2 (cut) on a WET day");
        Checks.row("7 .. 0 RUNG, WET", fromSevenDown("b0 0 1;"), 3, 3, 2, 2, 1, 1, 0, 0);
        Checks.row("7 .. 0 RUNG, DRY", fromSevenDown("b0 0 126;"), 7, 6, 5, 4, 3, 2, 1, 0);
        Checks.row("7 .. 0 RUNG, WET, the ECHO", fromSevenDown("b1 0 1;"), 4, 4, 3, 3, 2, 2, 0, 0);
    }

    private static void blanketTakes() {
        Checks.part("K fewer (0 at least)");
        Checks.row("K 3", fromSevenDown("b0 3 0;"), 4, 3, 2, 1, 0, 0, 0, 0);
        Checks.row("K 0", fromSevenDown("b0 0 0;"), 7, 6, 5, 4, 3, 2, 1, 0);
        Checks.row("K 6", fromSevenDown("b0 6 0;"), 1, 0, 0, 0, 0, 0, 0, 0);
        Checks.row("K 7", fromSevenDown("b0 7 0;"), 0, 0, 0, 0, 0, 0, 0, 0);
        Checks.row("K 9", fromSevenDown("b1 9 0;"), 0, 0, 0, 0, 0, 0, 0, 0);
        Checks.row("K 2 of the half", fromSevenDown("b0 2 1;"), 1, 1, 0, 0, 0, 0, 0, 0);
    }

    private static void echoOfWhatIsLeft() {
        Checks.part("of what is left, if it is 1 or more, the ECHO one more");
        Checks.row("K 3", fromSevenDown("b1 3 0;"), 5, 4, 3, 2, 0, 0, 0, 0);
        Checks.row("K 0", fromSevenDown("b1 0 0;"), 8, 7, 6, 5, 4, 3, 2, 0);
        Checks.row("K 2 of the half", fromSevenDown("b1 2 1;"), 2, 2, 0, 0, 0, 0, 0, 0);
    }

    /** HEARD all day but with the BLANKET on: five in turn, 20 times each. */
    private static void muffled(String sextons, int from, int to) {
        BellRope x = Checks.open("b0 1 0;" + "d1 20 0;".repeat(5) + sextons);
        for (int q = 0; q < 96; q++) {
            if (q % 20 == 0) {
                x.come(q / 20);
            }
            Checks.due("quarter(1) at " + q + " by " + sextons, x.quarter(1), q >= from && q <= to ? 0 : 1);
        }
    }

    private static void blanketFromTo() {
        Checks.part("the BLANKET on in L QUARTERS of each day from A on, none beyond 95");
        muffled("", 96, 96);
        muffled("s0 1;", 0, 0);
        muffled("s0 24;", 0, 23);
        muffled("s1 1;", 1, 1);
        muffled("s50 2;", 50, 51);
        muffled("s72 24;", 72, 95);
        muffled("s95 1;", 95, 95);
        muffled("s94 2;s95 1;", 94, 95);
        muffled("s0 24;s24 24;s48 24;s72 24;", 0, 95);
        muffled("s30 5;s33 5;s30 1;s37 1;", 30, 37);
    }

    private static void blanketEachDay() {
        Checks.part("of each day");
        BellRope x = Checks.open("b0 9 0;d1 20 0;d1 20 0;s0 2;s95 1;", 0);
        for (int day = 0; day < 3; day++) {
            Checks.row("HEARD on day " + day, Checks.heard(x, 4), 0, 0, 1, 1);
            x.quarter(91);
            x.come(1);
            Checks.due("the last of day " + day, x.quarter(1), 0);
            Checks.due("its RUNG", x.logged(0, 1), 1);
            x.go(1);
        }
    }

    private static void hungForTheNext() {
        Checks.part("HUNG: the next n ones");
        BellRope x = Checks.open("b0 9 0;d1 20 0;d1 20 0;", 0);
        Checks.row("hang(1)", new int[] {x.hang(1), x.quarter(1), x.told(10), x.quarter(1)}, 0, 0, 0, 1);
        Checks.row("hang(2)", new int[] {x.hang(2), x.quarter(1), x.told(10), x.quarter(1), x.told(10), x.quarter(1), x.told(10)}, 0, 0, 1, 0, 0, 1, 0);
        Checks.row("hang(0)", new int[] {x.hang(0), x.quarter(1)}, 0, 1);
        Checks.row("hang(5), hang(0)", new int[] {x.hang(5), x.hang(0), x.told(10), x.quarter(1)}, 0, 5, 0, 1);
        Checks.row("hang(9), hang(1): not both", new int[] {x.hang(9), x.hang(1), x.quarter(1), x.quarter(1)}, 0, 9, 0, 1);
        BellRope y = Checks.open("b0 9 0;d1 20 0;", 0);
        Checks.due("hang(96)", y.hang(96), 0);
        Checks.row("told(10) of 96", new int[] {y.quarter(95), y.told(10), y.quarter(1), y.told(10)}, 0, 1, 0, 0);
        Checks.due("the first that is not HUNG", y.quarter(1), 1);
        y.hang(96);
        // at 97; strikes(95) is the first of day 2
        Checks.row("strikes(95), (96) HUNG for 96", new int[] {y.strikes(95), y.strikes(96)}, 0, 1);
        y.hang(95);
        Checks.due("strikes(95) HUNG for 95", y.strikes(95), 1);
    }

    private static void hungBesideTheSexton() {
        Checks.part("SEXTON's QUARTERS, or HUNG: one BLANKET");
        BellRope x = Checks.open("b0 2 0;" + "d1 20 0;".repeat(5) + "s0 3;s1 1;", 0, 1, 2, 3, 4);
        x.hang(2);
        Checks.row("HEARD", Checks.heard(x, 4), 3, 3, 3, 5);
        Checks.due("told(10) went by in the SEXTON's", x.told(10), 0);
    }

    private static void sevenDays() {
        Checks.part("WET, if how many days are gone, left over by 7, is of WET");
        for (int set : new int[] {0, 1, 2, 4, 8, 16, 32, 64, 65, 127}) {
            BellRope x = Checks.open("b0 0 " + set + ";d1 1 0;d1 1 0;d1 1 0;d1 1 0;", 0, 1, 2, 3);
            for (int day = 0; day < 16; day++) {
                int wet = set >> day % 7 & 1;
                Checks.row("told(9), HEARD on day " + day + " of " + set, new int[] {x.told(9), x.quarter(1), x.quarter(95)}, wet, wet == 1 ? 2 : 4, 0);
            }
        }
    }

    private static void wetChangesAtTheDay() {
        Checks.part("the day of a QUARTER");
        BellRope x = Checks.open("b0 0 2;d1 20 0;d1 20 0;");
        x.quarter(95);
        x.come(0);
        x.come(1);
        Checks.row("told(9), HEARD at 95, 96", new int[] {x.told(9), x.quarter(1), x.told(9), x.quarter(1)}, 0, 2, 1, 1);
        x.go(0);
        x.go(1);
        x.quarter(94);
        x.come(0);
        x.come(1);
        Checks.row("told(9), HEARD at 191, 192", new int[] {x.told(9), x.quarter(1), x.told(9), x.quarter(1)}, 1, 1, 0, 2);
    }

    private static void rainForAllDays() {
        Checks.part("RAIN (0 at first: as told; 1: WET, 2: DRY) for all days");
        BellRope x = Checks.open("b0 0 85;");
        Checks.due("told(13) at first", x.told(13), 0);
        for (int day = 0; day < 8; day++) {
            int[] row = new int[3];
            for (int r = 2; r >= 0; r--) {
                x.rain(r);
                row[r] = x.told(9);
            }
            Checks.row("told(9) by RAIN 0, 1, 2 on day " + day, row, 85 >> day % 7 & 1, 1, 0);
            x.quarter(96);
        }
        BellRope y = Checks.open("b0 0 1;d1 20 0;d1 20 0;", 0, 1);
        y.rain(2);
        Checks.row("strikes on a WET day, DRY by RAIN", new int[] {y.strikes(0), y.strikes(96)}, 2, 2);
        y.rain(1);
        Checks.row("strikes on both, WET by RAIN", new int[] {y.strikes(0), y.strikes(96)}, 1, 1);
        y.rain(0);
        Checks.row("strikes as told", new int[] {y.strikes(0), y.strikes(96)}, 1, 2);
    }

    private static void twelveIsZero() {
        Checks.part("the BELL's hour: 0 at first; 12 is 0 again");
        BellRope x = Checks.open("b0 0 0;d1 20 0;d1 20 0;", 0);
        Checks.due("told(8) at first", x.told(8), 0);
        for (int i = 1; i <= 40; i++) {
            if (i == 21) {
                x.come(1);
            }
            x.quarter(1);
            Checks.row("told(8), hour(0) behind " + i, new int[] {x.told(8), x.hour(0)}, i % 12, i % 12);
        }
        BellRope y = Checks.open("b0 0 0;d1 20 0;d1 20 0;d1 20 0;d1 20 0;d1 20 0;", 0, 1, 2, 3, 4);
        y.quarter(20);
        Checks.due("told(8): one on, however many STROKES", y.told(8), 8);
    }

    private static void hourStaysUnheard() {
        Checks.part("the BELL's hour is one on, if HEARD is 1 or more");
        BellRope x = Checks.open("b0 1 0;d1 20 0;d1 20 0;", 0);
        x.quarter(11);
        x.hang(3);
        Checks.row("RUNG 1, HEARD 0", new int[] {x.quarter(1), x.told(8), x.quarter(1), x.told(8)}, 0, 11, 0, 11);
        x.come(1);
        Checks.row("RUNG 2, HEARD 1", new int[] {x.quarter(1), x.told(8)}, 1, 0);
        x.go(0);
        x.go(1);
        Checks.row("none RUNG", new int[] {x.quarter(1), x.told(8)}, 0, 0);
    }

    private static void treatedToZero() {
        Checks.part("TREATED: his PINTS are n fewer (0 at least)");
        for (int n : new int[] {1, 4, 5, 6, 20}) {
            BellRope x = Checks.open("b0 0 0;d1 5 0;", 0);
            x.quarter(5);
            Checks.row("treat(0, " + n + "), drinker(0, 4)", new int[] {x.treat(0, n), x.drinker(0, 4)}, Math.max(0, 5 - n), Math.max(0, 5 - n));
            Checks.row("treat(0, 20), drinker(0, 4), most()", new int[] {x.treat(0, 20), x.drinker(0, 4), x.most()}, 0, 0, NONE);
        }
        BellRope all = Checks.open("b0 0 0;d1 20 0;", 0);
        all.quarter(20);
        Checks.row("treat(0, 20) of 20", new int[] {all.drinker(0, 4), all.treat(0, 20), all.drinker(0, 6)}, 20, 0, 1);
    }

    private static void paidGoesOn() {
        Checks.part("PAID: all PINTS are counted");
        BellRope x = Checks.open("b0 9 127;d1 5 0;d1 20 0;s0 24;", 0, 1);
        Checks.row("told(11) at first", new int[] {x.told(11), x.quarter(5), x.told(11)}, 0, 0, 10);
        x.treat(0, 5);
        x.treat(1, 5);
        Checks.due("told(11), TREATED", x.told(11), 10);
        x.quarter(91);
        Checks.due("told(11) behind a day", x.told(11), 10 + 5 + 20);
        x.quarter(96);
        Checks.due("told(11) behind two days", x.told(11), 35 + 25);
    }

    private static long next(long seed) {
        return (seed * 1103515245L + 12345L) % 2147483648L;
    }

    private static void seedLeftOver() {
        Checks.part("THE SEED: it times 1103515245 and 12345, left over by 2 to the 31");
        Checks.due("THE SEED at first", new BellRope().seed(0), 0);
        for (int first : new int[] {0, 1, 2, 12345, 65535, 65536, 1073741823, 1073741824, 2147483646, 2147483647}) {
            BellRope x = Checks.open("b0 0 0;d1 20 0;");
            Checks.due("seed(" + first + ")", x.seed(first), 0);
            long seed = first;
            for (int i = 0; i < 40; i++) {
                x.drift(1);
                seed = next(next(seed));
                // a third DRAW, of RAIN
                seed = seed / 65536 % 6 == 2 ? next(seed) : seed;
                int got = x.seed(0);
                Checks.due("THE SEED from " + first + " behind " + (i + 1), got, seed);
                x.seed(got);
            }
        }
    }

    /** The least seed by which the second of two DRAWS is such a one of 6, and the first a one of many. */
    private static int seedOf(int who, int many, int deed) {
        int seed = 0;
        while (next(seed) / 65536 % many != who || next(next(seed)) / 65536 % 6 != deed) {
            seed++;
        }
        return seed;
    }

    private static void drawsOfEachDeed() {
        Checks.part("a DRAW of DRINKERS, of 6: on 0 he COMES, if he is not IN, on 1 he GOES, if he is; on 2 RAIN is a DRAW of 3");
        String three = "b0 0 0;d1 20 0;d1 20 0;d1 20 0;";
        for (int who = 0; who < 3; who++) {
            for (int deed = 0; deed < 6; deed++) {
                int seed = seedOf(who, 3, deed);
                BellRope nobody = Checks.open(three);
                BellRope all = Checks.open(three, 0, 1, 2);
                nobody.seed(seed);
                all.seed(seed);
                nobody.rain(1);
                all.rain(1);
                nobody.drift(1);
                all.drift(1);
                String what = " behind the DRAWS " + who + ", " + deed;
                Checks.due("who is IN of nobody" + what, nobody.told(7), deed == 0 ? 1 << who : 0);
                Checks.due("who is IN of all" + what, all.told(7), deed == 1 ? 7 - (1 << who) : 7);
                long third = next(next(next(seed)));
                int weather = deed == 2 ? (int) (third / 65536 % 3) : 1;
                Checks.row("RAIN" + what, new int[] {nobody.told(13), all.told(13)}, weather, weather);
                Checks.row("told(16)" + what, new int[] {nobody.told(16), all.told(16)}, 2, 5);
            }
        }
    }

    private static void drawsAheadOfEach() {
        Checks.part("BY DRAWS: ahead of each QUARTER");
        BellRope x = Checks.open("b0 0 0;d1 20 0;d1 20 0;d1 20 0;");
        x.seed(seedOf(2, 3, 0));
        Checks.row("drift(1) by who COMES", new int[] {x.drift(1), x.told(7), x.drinker(2, 4)}, 1, 4, 1);
        x.seed(seedOf(2, 3, 1));
        Checks.row("drift(1) by who GOES", new int[] {x.drift(1), x.told(7), x.drinker(2, 4)}, 0, 0, 1);
        for (int n : new int[] {2, 96}) {
            BellRope once = Checks.open(Probe.BUSY);
            BellRope many = Checks.open(Probe.BUSY);
            once.seed(6);
            many.seed(6);
            int heard = 0;
            for (int i = 0; i < n; i++) {
                heard = many.drift(1);
            }
            Checks.due("drift(" + n + "): HEARD in the latest", once.drift(n), heard);
            once.keep(0);
            many.keep(0);
            Probe.same("drift(" + n + ") at once", once, many);
        }
    }

    private static void drawsWithoutDrinkers() {
        Checks.part("if there are DRINKERS");
        BellRope x = Checks.open("b0 0 0;");
        x.seed(3);
        Checks.row("drift(96), QUARTERS, THE SEED", new int[] {x.drift(96), x.told(6), x.told(13), x.seed(3)}, 0, 96, 0, 3);
    }

    private static void imagesKeepTheSeed() {
        Checks.part("IMAGES 0, 1 keep all of section 2, THE SEED");
        BellRope x = Checks.open(Probe.BUSY, 0);
        x.seed(11);
        x.keep(0);
        x.drift(50);
        x.seed(2147483647);
        x.keep(1);
        x.drift(70);
        x.seed(5);
        Checks.row("goBack(0), QUARTERS, who is IN, THE SEED", new int[] {x.goBack(0), x.told(6), x.told(7), x.seed(1)}, 1, 0, 1, 11);
        Checks.row("goBack(1), QUARTERS, THE SEED", new int[] {x.goBack(1), x.told(6), x.seed(1)}, 1, 50, 2147483647);
        Checks.row("goBack(1) again", new int[] {x.goBack(1), x.seed(1)}, 1, 2147483647);
        x.turn(0, 9);
        Checks.row("keep(0): nothing can be undone then", new int[] {x.told(16), x.keep(0), x.told(16), x.undo()}, 1, 1, 0, BellRope.NOT);
        x.turn(0, 8);
        Checks.row("goBack(0): nothing can be undone then", new int[] {x.told(16), x.goBack(0), x.told(16), x.undo(), x.drinker(0, 5)}, 1, 1, 0, BellRope.NOT, 9);
    }
}

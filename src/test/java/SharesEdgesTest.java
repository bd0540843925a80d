/** Boundary cases of promises 28 to 32, sentence by sentence: shares, rests, chances. */
final class SharesEdgesTest extends Edges {
    private static final long TIMES = 6364136223846793005L;
    private static final long MORE = 1442695040888963407L;

    /** Each drive sings three TONES. */
    private static final String PLAIN = "C0Ga0L000L000L000B10B10B10B10B10";

    public static void main(String[] args) {
        shareRefused();
        share();
        restsRefused();
        rests();
        dripsRefused();
        drips();
        seed();
        wintersRefused();
        winters();
        wintersIfItCanBe();
        end("SharesEdgesTest", 28, 32);
    }

    // ---- promise 28

    private static void fraction(Run run, String pattern, long above, long below) {
        run.due(above, pattern.replace("#", "true")).due(below, pattern.replace("#", "false"));
    }

    private static void shareRefused() {
        says(28, "UNKNOWN: beast, lane.");
        fen(WIDE).sides(UNKNOWN, "share(#, 0, true)", 0, 4).sides(UNKNOWN, "share(0, #, true)", 0, 2).due(UNKNOWN, "share(5, 3, true)", "share(MIN, MAX, true)");
        fen(SMALL).sides(UNKNOWN, "share(#, 0, true)", 0, 1).sides(UNKNOWN, "share(0, #, true)", 0, 0);
        fen("C0B10").noneIs(UNKNOWN, "share(0, #, true)");
        fen("C0Ga0L000").noneIs(UNKNOWN, "share(#, 0, true)");
        says(28, "refusals of them are told likewise");
        fen(WIDE).sides(UNKNOWN, "share(#, 0, false)", 0, 4).sides(UNKNOWN, "share(0, #, false)", 0, 2).due(UNKNOWN, "share(-1, -1, false)");
    }

    private static void share() {
        says(28, "FRACTIONS are told above (upper = true; below 0, if they are), below (1 and more), in least terms");
        // Alone: all its TONES, three at most, six of a CALF, none of a silent one.
        fraction(fen("C0Ga0Gb0Gc0L012B10"), "share(0, 0, #)", 3, 1);
        fraction(fen("C0Ga0Gc0Ge0L012B11"), "share(0, 0, #)", 6, 1);
        fraction(fen("C0Ga0L000B10").does("oil(0)"), "share(0, 0, #)", 0, 1);
        says(28, "if BEASTS come one by one, in each order as likely");
        // One TONE of all: a half, a third, a quarter, a fifth.
        for (int beasts = 1; beasts <= 5; beasts++) {
            Run run = fen("C0Ga0L000" + "B10".repeat(beasts));
            fraction(run, "share(0, 0, #)", 1, beasts);
            fraction(run, "share(" + (beasts - 1) + ", 0, #)", 1, beasts);
        }
        // Three TONES of all three are 3/3, two of all four 2/4: in least terms 1/1 and 1/2.
        fraction(fen("C0Ga0Gb0Gc0L012B10B10B10"), "share(0, 0, #)", 1, 1);
        fraction(fen("C0Ga0Gb0L011B10B10B10B10"), "share(3, 0, #)", 1, 2);
        // The CALF gives 0 and 1: 0 is of four BEASTS, then of three, and 1 of two.
        Run four = fen("C0Ga0L000B10B10B10B11B20");
        fraction(four, "share(3, 0, #)", 3, 4);
        fraction(four, "share(0, 0, #)", 1, 4);
        fraction(four, "share(4, 0, #)", 1, 2);
        fraction(fen("C0Ga0L000B10B10B11B20"), "share(2, 0, #)", 5, 6);
        says(28, "by how many in the mean different TONES (RESTS set aside)");
        // The STIFF GATE is a REST for the first alone; the same TONE twice is one.
        Run stiff = fen("C0Ga3Gc0L001B40B50");
        fraction(stiff, "share(0, 0, #)", 1, 2);
        fraction(stiff, "share(1, 0, #)", 3, 2);
        // Who is HOME comes as well.
        fraction(fen("C0Ga0L000B10B10").does("drive(0, 0)"), "share(1, 0, #)", 1, 2);
    }

    // ---- promise 29

    private static void restsRefused() {
        says(29, "UNKNOWN: both;");
        fen(WIDE).sides(UNKNOWN, "rests(#, 2, 0)", 0, 4).sides(UNKNOWN, "rests(2, #, 1)", 0, 4);
        fen(SMALL).due(UNKNOWN, "rests(0, 2, 0)", "rests(2, 0, 0)", "rests(0, -1, 1)", "rests(-1, 0, 1)", "rests(MIN, 0, 0)", "rests(0, MAX, 0)");
        choir().noneIs(UNKNOWN, "rests(#, 1, 0)").noneIs(UNKNOWN, "rests(0, #, 0)");
        says(29, "OUTSIDE: both are one, what.");
        fen(WIDE).sides(OUTSIDE, "rests(0, 4, #)", 0, 1).due(OUTSIDE, "rests(0, 0, 0)", "rests(4, 4, 1)", "rests(1, 1, 2)", "rests(1, 1, MIN)");
        fen("C0B10").due(OUTSIDE, "rests(0, 0, 0)");
        says(29, "REFUSALS, of several the first that a call names");
        fen(WIDE).due(UNKNOWN, "rests(5, 5, 0)", "rests(-1, -1, 1)", "rests(5, 0, 2)", "rests(0, 5, -1)", "rests(MAX, MAX, MAX)", "rests(MIN, MIN, MIN)");
        fen("C0B10").due(UNKNOWN, "rests(1, 1, 0)", "rests(0, 1, 2)");
    }

    private static void pairs(Run run, String pattern, long many, long first) {
        run.due(many, pattern.replace("#", "0")).due(first, pattern.replace("#", "1"));
    }

    private static void rests() {
        says(29, "RESTS: how many (what = 0), the first (1); NONE.");
        pairs(fen("C0Ga0B10B10"), "rests(0, 1, #)", 0, NONE);
        says(29, "if both choose one, each has 0");
        // One LANE: there is no other. Two: apart each has 4. Three: apart as well, whichever.
        pairs(fen("C0Ga0L000B10B10"), "rests(0, 1, #)", 1, 0);
        pairs(fen("C0Ga0L000L000B10B10"), "rests(0, 1, #)", 2, 1);
        pairs(fen("C0Ga0L000L000L000B10B10"), "rests(0, 1, #)", 6, 1);
        // All silent: each has 0 everywhere, and rests everywhere.
        pairs(fen("C0Ga0L000L000L000B10B10").does("oil(0)"), "rests(0, 1, #)", 9, 0);
        says(29, "1 more, if its own SONG has no REST");
        // Nothing in harmony (1 apart): who is in LANE 1, apart, has 1; LANE 0 is silent.
        pairs(fen("C0Ga0Ga0L000L111B10B20").does("open(0)"), "rests(0, 1, #)", 3, 1);
        // 0 1 1, 0 0 and a REST, 0 0 0: against the third the first has 1 and 1 more, the second has 2.
        pairs(fen("C0Ga0Gb0Ga0L011L002L000B10B10").does("oil(2)"), "rests(0, 1, #)", 4, 2);
        says(29, "the first (10 times the one and the other)");
        // By harmony alone LANES 0 to 2 of the one against the other: - 2 1, 0 - 0, 2 3 -.
        Run one = fen("C0Gb0Ge0Gf0L210L111L000B10B30");
        pairs(one, "rests(0, 1, #)", 1, 21);
        pairs(one, "rests(1, 0, #)", 1, 12);
        // Who is HOME chooses as well.
        pairs(one.does("drive(0, 0)", "drive(1, 0)"), "rests(0, 1, #)", 1, 21);
    }

    // ---- promise 30

    private static void dripsRefused() {
        says(30, "UNKNOWN: beast, lane; OUTSIDE: m, x.");
        fen(WIDE).sides(UNKNOWN, "drips(#, 0, 0, 0, true)", 0, 4).sides(UNKNOWN, "drips(0, #, 0, 0, true)", 0, 2)
                .sides(OUTSIDE, "drips(0, 0, #, 0, true)", 0, 12).sides(OUTSIDE, "drips(0, 0, 0, #, true)", 0, 10)
                .due(OUTSIDE, "drips(4, 2, 13, 11, true)", "drips(0, 0, MIN, MAX, true)");
        fen(SMALL).sides(UNKNOWN, "drips(#, 0, 12, 10, true)", 0, 1).sides(UNKNOWN, "drips(1, #, 12, 10, true)", 0, 0);
        fen("C0B10").noneIs(UNKNOWN, "drips(0, #, 0, 0, true)");
        fen("C0Ga0L000").noneIs(UNKNOWN, "drips(#, 0, 0, 0, true)");
        says(30, "refusals of them are told likewise");
        fen(WIDE).sides(UNKNOWN, "drips(#, 0, 0, 0, false)", 0, 4).sides(UNKNOWN, "drips(0, #, 0, 0, false)", 0, 2)
                .sides(OUTSIDE, "drips(0, 0, #, 0, false)", 0, 12).sides(OUTSIDE, "drips(0, 0, 0, #, false)", 0, 10);
        says(30, "REFUSALS, of several the first that a call names");
        fen(WIDE).due(UNKNOWN, "drips(5, 0, 13, 0, true)", "drips(0, 3, 0, 11, false)", "drips(-1, -1, -1, -1, true)", "drips(MAX, MIN, MAX, MIN, false)");
    }

    private static void drips() {
        says(30, "each GATE that is not OILED is so by x tenths (0 to 10), by itself");
        int[] above = {0, 1, 1, 3, 2, 1, 3, 7, 4, 9, 1};
        int[] below = {1, 10, 5, 10, 5, 2, 5, 10, 5, 10, 1};
        Run one = fen("C0Ga0L000B10");
        for (int x = 0; x <= 10; x++) {
            fraction(one, "drips(0, 0, 0, " + x + ", #)", above[x], below[x]);
        }
        Run three = fen("C0Ga0Gb0Gc0L012B10");
        fraction(three, "drips(0, 0, 0, 1, #)", 1, 1000);
        fraction(three, "drips(0, 0, 2, 1, #)", 271, 1000);
        fraction(three, "drips(0, 0, 0, 9, #)", 729, 1000);
        fraction(three, "drips(0, 0, 1, 5, #)", 1, 2);
        fraction(three, "drips(0, 0, 2, 5, #)", 7, 8);
        // What is OILED stays so; of the others each by itself.
        fraction(three.does("oil(0)"), "drips(0, 0, 0, 5, #)", 1, 4);
        fraction(three.does("oil(1)"), "drips(0, 0, 0, 5, #)", 1, 2);
        fraction(three.does("oil(2)"), "drips(0, 0, 0, 0, #)", 1, 1);
        // A GATE that is OPEN, or STIFF, is silent by x or not.
        fraction(fen("C0Ga0Gb3L011B40").does("open(0)"), "drips(0, 0, 0, 3, #)", 1, 1);
        fraction(fen("C0Ga0Gb3L011B40"), "drips(0, 0, 0, 3, #)", 3, 10);
        says(30, "the SONG of a BEAST in a LANE has m (0 to 12) or fewer that are no REST");
        Run longest = fen("C0Ga1L000B11");
        fraction(longest, "drips(0, 0, 0, 3, #)", 3, 10);
        fraction(longest, "drips(0, 0, 11, 3, #)", 3, 10);
        fraction(longest, "drips(0, 0, 12, 3, #)", 1, 1);
        fraction(longest, "drips(0, 0, 12, 0, #)", 1, 1);
        fraction(longest, "drips(0, 0, 11, 0, #)", 0, 1);
        fraction(longest, "drips(0, 0, 0, 10, #)", 1, 1);
        fraction(one, "drips(0, 0, 2, 3, #)", 3, 10);
        fraction(one, "drips(0, 0, 3, 3, #)", 1, 1);
        says(30, "below (1 and more), in least terms");
        fraction(one, "drips(0, 0, 2, 0, #)", 0, 1);
        fraction(one, "drips(0, 0, 12, 10, #)", 1, 1);
    }

    // ---- promise 31

    private static void seed() {
        says(31, "THE SEED is v: what it was.");
        choir().due(0, "seed(9223372036854775807)").due(Long.MAX_VALUE, "seed(-9223372036854775808)").due(Long.MIN_VALUE, "seed(-1)")
                .due(-1, "seed(-2)").due(-2, "seed(-3)").due(-3, "seed(-4)").due(-4, "seed(4294967296)").due(4294967296L, "seed(0)").due(0, "seed(0)");
        says(31, "THE SEED, a long; 0 at first");
        choir().due(0, "seed(1)").due(1, "seed(1)");
        fen(WIDE).does("seed(5)", "drive(0, 0)", "undo()", "keep(0)", "again(0)", "fen()").due(5, "seed(5)");
    }

    // ---- promise 32

    /** What THE SEED was, if it is x after one winter: TIMES is odd, so it can be turned back in 64 bits. */
    private static long ahead(long x) {
        long back = TIMES;
        for (int i = 0; i < 6; i++) {
            back *= 2 - TIMES * back;
        }
        return (x - MORE) * back;
    }

    private static int chance(long x) {
        return (int) ((x >>> 33) % 21);
    }

    /** A seed by which the two next chances are these. */
    private static long seedOf(int first, int second) {
        for (long lower = 0; lower < 100000; lower++) {
            long x = ((long) first << 33) + lower;
            if (chance(x * TIMES + MORE) == second) {
                return ahead(x);
            }
        }
        throw new IllegalStateException("no such seed");
    }

    private static void wintersRefused() {
        says(32, "WINTERS. OUTSIDE: m.");
        choir().sides(OUTSIDE, "winters(#)", 1, 30);
        fen(WIDE).does("seed(5)", "drive(0, 0)").sides(OUTSIDE, "winters(#)", 1, 30).due(5, "seed(0)");
        says(32, "(Nothing changes but THE SEED.)");
        fen(WIDE).does("drive(2, 1)", "oil(1)", "keep(0)", "hear(0, 0, 3)", "hang(4, true)").alike("winters(30); seed(5)", "seed(5)")
                .alike("winters(1); seed(5)", "seed(5)").alike("winters(30)", "winters(12); winters(18)");
    }

    private static void winters() {
        says(32, "becomes x times 6364136223846793005 and 1442695040888963407 (64 bits, wrapping)");
        choir().due(0, "winters(1)").due(1442695040888963407L, "seed(0)").due(0, "winters(2)").due(1876011003808476466L, "seed(1)")
                .due(0, "winters(2)").due(-9049835345590740197L, "seed(-1)").due(0, "winters(1)").due(-4921441182957829598L, "seed(0)")
                .due(0, "winters(30)").due(-7345197285147560642L, "seed(9223372036854775807)").due(0, "winters(1)")
                .due(4301930853896946210L, "seed(-9223372036854775808)").due(0, "winters(30)").due(1878174751707215166L, "seed(0)");
        says(32, "m times (1 to 30)");
        // By 0 the chances are 2 15 13 16 20 14 11 20 12 9 1 12 12 16 3 0 13 6 17 10 19 2 1 17 20 12 8 4 17 15: eight drives.
        fen(PLAIN).due(3, "winters(1)").does("seed(0)").due(3, "winters(2)").does("seed(0)").due(6, "winters(3)").does("seed(0)").due(24, "winters(30)");
        says(32, "its upper 31 bits by 21, what is left");
        // By 21 2147483647 leaves 1, 1073741824 too, 1073741823 leaves 0. The 33 lower bits are not looked at.
        String lanes = "C0Ga0Ga1L000L001L011B10B10B10B10B10";
        long[] steps = {-1L, (1L << 33) - 1, 1L << 33, Long.MIN_VALUE, Long.MAX_VALUE, 0L};
        long[] tones = {4, 3, 4, 4, 3, 3};
        for (int i = 0; i < steps.length; i++) {
            fen(lanes).does("seed(" + ahead(steps[i]) + ")").due(tones[i], "winters(1)").due(steps[i], "seed(0)");
        }
    }

    private static void wintersIfItCanBe() {
        says(32, "0 to 14: that by 3 (down) is a BEAST that is DRIVEN through the LANE that is left by 3, if it can be");
        for (int chance = 0; chance < 21; chance++) {
            Run run = fen("C0Ga0Ga1L000L001L011B10B10B10B10B10");
            for (int beast = 0; beast < 5; beast++) {
                if (beast != chance / 3) {
                    run.does("drive(" + beast + ", 0)");
                }
            }
            String seed = "seed(" + ahead((long) chance << 33) + ")";
            run.does(seed).due(chance < 15 ? 3 + chance % 3 : 0, "winters(1)");
            if (chance < 15) {
                run.does("drive(" + chance / 3 + ", 0)", seed).due(0, "winters(1)");
            }
        }
        // No such LANE, no such BEAST, nothing at all.
        long[] wants = {3, 0, 0, 0, 0, 0, 0, 0, 0, 0, 0, 0, 0, 0, 0, 0, 0, 0, 0, 0, 0};
        for (int chance = 0; chance < 21; chance++) {
            String seed = "seed(" + ahead((long) chance << 33) + ")";
            fen("C0Ga0L000B10").does(seed).due(wants[chance], "winters(1)");
            choir().does(seed).due(0, "winters(1)");
        }
        says(32, "15 to 19: that less 15 BEAST is TURNED OUT, if it can be; 20 FROST");
        for (int beast = 0; beast < 5; beast++) {
            Run run = fen(PLAIN).does("drive(0, 0)", "drive(1, 0)", "drive(2, 0)", "drive(3, 0)", "drive(4, 0)");
            run.does("seed(" + seedOf(15 + beast, 3 * beast) + ")").due(3, "winters(2)");
            run.does("seed(" + seedOf(15 + beast, (3 * beast + 3) % 15) + ")").due(0, "winters(2)");
            run.does("seed(" + seedOf(20, 3 * beast) + ")").due(0, "winters(2)");
        }
        // Who is not HOME is not TURNED OUT, and is DRIVEN once, not twice.
        fen(PLAIN).does("seed(" + seedOf(15, 0) + ")").due(3, "winters(2)").does("seed(" + seedOf(0, 1) + ")").due(3, "winters(2)")
                .does("seed(" + seedOf(20, 14) + ")").due(3, "winters(2)");
        says(32, "how many TONES (no REST) were SUNG, all together");
        fen(PLAIN).does("oil(0)").due(0, "winters(30)");
        fen("C0Ga1Gb0L000L001L111B11B10").does("seed(" + seedOf(0, 4) + ")").due(17, "winters(2)").does("oil(0)", "seed(" + seedOf(1, 5) + ")")
                .due(5, "winters(2)");
    }
}

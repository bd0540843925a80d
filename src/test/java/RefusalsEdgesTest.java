/**
 * "What is refused changes nothing." and "In what follows nothing is changed.", promise by promise: each call is made
 * where there is something of everything to be lost, and every later answer is compared with that of a twin.
 */
final class RefusalsEdgesTest extends Edges {
    private static final String REFUSED = "What is refused changes nothing.";

    public static void main(String[] args) {
        ofTheText();
        ofTheFen();
        ofActs();
        ofVerses();
        ofHeard();
        ofShares();
        ofSlots();
        whatOnlyAsks();
        end("RefusalsEdgesTest");
    }

    /** Something is SUNG, PASSED, OPEN, OILED, HUNG, HOME, there is FROST, both slots are kept and are not alike. */
    private static Run rich() {
        return fen(WIDE).does("drive(1, 1)", "drive(4, 0)", "open(1)", "oil(2)", "hang(3, false)", "frost()", "keep(0)", "turnOut(4)")
                .does("hang(0, true)", "oil(4)", "keep(1)", "drive(0, 2)", "hear(0, 0, 1)", "hear(1, 3, 12)", "seed(77)");
    }

    /** As that, but with THE ROW of ACTS empty. */
    private static Run richWithoutActs() {
        return rich().does("again(1)");
    }

    /** As that, but with 60 letters, 14 ACTS and 6 HEARD, all of them needed. */
    private static Run richAndFull() {
        Run run = rich().does("unhear()").writes("xxxxxx");
        for (int i = 0; i < 16; i++) {
            run.does("hang(" + i % 5 + ", " + (i % 3 == 0) + ")");
        }
        for (int i = 0; i < 6; i++) {
            run.does("hear(0, 1, 12)");
        }
        return run.due(60, "count(0)").due(14, "count(8)").due(6, "count(9)").due(1022, "weights(0)");
    }

    private static void refused(int promise, long answer, String... calls) {
        says(promise, REFUSED);
        rich().due(answer, calls);
        richWithoutActs().due(answer, calls);
        richAndFull().due(answer, calls);
    }

    private static void ofTheText() {
        refused(2, OUTSIDE, "write(-1)", "write(256)", "write(MIN)", "write(MAX)");
        says(2, REFUSED);
        richAndFull().due(FULL, "write(67)", "write(0)", "write(255)");
        says(5, REFUSED);
        richAndFull().due(STATE, "fen()");
        rich().does("write(67)").due(STATE, "fen()");
        rich().does("wipe()").due(STATE, "fen()");
        richWithoutActs().text("C1Gl3Gk2Gj1Gi0Gh0L000L111L222B93B93B93B93B93VllllVllllV").due(STATE, "fen()");
    }

    private static void ofTheFen() {
        refused(6, UNKNOWN, "gate(5, 0)", "gate(-1, 5)");
        refused(6, OUTSIDE, "gate(0, 6)", "gate(4, -1)");
        refused(7, UNKNOWN, "beast(5, 0)", "beast(-1, 2)");
        refused(7, OUTSIDE, "beast(0, 3)", "beast(4, -1)");
        refused(8, UNKNOWN, "tone(5, 0)", "tone(0, 5)", "tone(-1, -1)");
        refused(9, UNKNOWN, "song(5, 0, 0)", "song(0, 3, 0)");
        refused(9, OUTSIDE, "song(0, 0, 13)", "song(0, 0, -1)");
        refused(10, OUTSIDE, "sung(12)", "sung(-1)");
    }

    private static void ofActs() {
        refused(11, UNKNOWN, "drive(5, 0)", "drive(-1, 0)", "drive(2, 3)", "drive(2, -1)", "drive(MIN, MAX)");
        refused(11, STATE, "drive(1, 0)", "drive(1, 1)", "drive(1, 2)");
        refused(12, UNKNOWN, "open(5)", "open(-1)", "open(32)", "open(MIN)", "open(MAX)");
        refused(13, UNKNOWN, "oil(5)", "oil(-1)", "oil(32)", "oil(MIN)", "oil(MAX)");
        refused(14, UNKNOWN, "hang(5, true)", "hang(-1, false)", "hang(8, true)", "hang(MIN, true)", "hang(MAX, false)");
        refused(15, UNKNOWN, "turnOut(5)", "turnOut(-1)", "turnOut(32)", "turnOut(33)", "turnOut(MIN)", "turnOut(MAX)");
        refused(15, STATE, "turnOut(2)", "turnOut(3)", "turnOut(4)");
        says(17, REFUSED);
        richWithoutActs().due(STATE, "undo()", "undo()");
    }

    private static void ofVerses() {
        refused(18, UNKNOWN, "fit(2)", "fit(-1)");
        refused(19, UNKNOWN, "harmony(5, 0, 0, 0)", "harmony(0, 3, 0, 0)", "harmony(0, 0, 5, 0)", "harmony(0, 0, 0, 3)");
        refused(20, UNKNOWN, "best(2, 1, true)", "best(-1, 1, false)");
        refused(20, OUTSIDE, "best(0, 0, true)", "best(0, 4, false)");
        refused(21, UNKNOWN, "fewest(2)", "fewest(-1)");
        refused(22, UNKNOWN, "has(2, 0)", "has(0, 3)");
        refused(23, UNKNOWN, "silence(3)", "silence(-1)");
        refused(24, OUTSIDE, "judge(0, 0)", "judge(5, 0)", "judge(1, -1)", "judge(1, 100)", "judge(4, 100000000)");
    }

    private static void ofHeard() {
        refused(25, UNKNOWN, "hear(0, 5, 0)", "hear(0, -1, 0)");
        refused(25, OUTSIDE, "hear(4, 0, 0)", "hear(-1, 0, 0)", "hear(0, 0, 13)", "hear(0, 0, -1)");
        says(25, REFUSED);
        // Were one of these put into any place of the six, the weights would be others.
        richAndFull().due(FULL, "hear(0, 0, 0)", "hear(0, 1, 0)", "hear(1, 0, 12)", "hear(2, 0, 0)", "hear(3, 4, 11)");
        refused(27, OUTSIDE, "weights(4)", "weights(-1)");
    }

    private static void ofShares() {
        refused(28, UNKNOWN, "share(5, 0, true)", "share(0, 3, false)");
        refused(29, UNKNOWN, "rests(5, 0, 0)", "rests(0, 5, 1)");
        refused(29, OUTSIDE, "rests(0, 0, 0)", "rests(0, 1, 2)", "rests(0, 1, -1)");
        refused(30, UNKNOWN, "drips(5, 0, 0, 0, true)", "drips(0, 3, 0, 0, false)");
        refused(30, OUTSIDE, "drips(0, 0, 13, 0, true)", "drips(0, 0, 0, 11, false)");
        refused(32, OUTSIDE, "winters(0)", "winters(31)", "winters(-1)", "winters(MIN)", "winters(MAX)");
    }

    private static void ofSlots() {
        refused(33, UNKNOWN, "keep(2)", "keep(-1)", "keep(MIN)", "keep(MAX)");
        refused(34, UNKNOWN, "again(2)", "again(-1)", "again(MIN)", "again(MAX)");
        says(34, REFUSED);
        fen(WIDE).does("drive(0, 0)", "frost()", "keep(1)", "oil(0)", "hear(0, 0, 1)").due(STATE, "again(0)");
        fen(WIDE).does("drive(0, 0)", "frost()", "keep(0)", "oil(0)", "hear(0, 0, 1)").due(STATE, "again(1)");
        refused(35, OUTSIDE, "count(10)", "count(-1)");
    }

    private static final String[] ASKING = {
        "fit(0)", "fit(1)", "harmony(0, 0, 4, 2)", "best(0, 1, true)", "best(1, 2, false)", "best(0, 3, true)", "fewest(0)", "fewest(1)",
        "has(0, 1)", "silence(0)", "silence(2)", "judge(4, 20547030)", "judge(4, 20603081)", "judge(1, 99)", "weights(0)", "weights(1)",
        "share(1, 1, true)", "rests(0, 1, 0)", "rests(4, 2, 1)", "drips(1, 1, 5, 3, true)", "drips(0, 0, 0, 10, false)"};

    private static void whatOnlyAsks() {
        says(18, "In what follows nothing is changed.");
        rich().still(ASKING);
        richWithoutActs().still(ASKING);
        richAndFull().still(ASKING);
        says(4, "FAULT; NONE.");
        rich().still("fault()").does("write(67)").still("fault()").does("wipe()").still("fault()");
        richAndFull().still("fault()");
        says(35, "0 letters of THE TEXT");
        rich().still("count(0)", "count(9)", "gate(0, 0)", "gate(4, 5)", "beast(0, 2)", "tone(2, 1)", "song(1, 1, 12)", "song(0, 0, 3)", "sung(0)", "sung(11)");
    }
}

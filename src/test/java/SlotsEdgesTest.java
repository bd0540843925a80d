/** Boundary cases of promises 33 to 35, sentence by sentence: slots. */
final class SlotsEdgesTest extends Edges {
    public static void main(String[] args) {
        keep();
        again();
        whatIsKept();
        count();
        end("SlotsEdgesTest", 33, 35);
    }

    private static void keep() {
        says(33, "UNKNOWN.");
        choir().sides(UNKNOWN, "keep(#)", 0, 1);
        fen(WIDE).does("drive(0, 0)", "keep(0)", "keep(1)", "frost()").sides(UNKNOWN, "keep(#)", 0, 1);
        says(33, "They are kept: how many are HOME.");
        choir().due(0, "keep(0)", "keep(1)");
        fen(WIDE).due(0, "keep(0)").does("drive(4, 0)").due(1, "keep(0)").does("drive(0, 0)", "drive(1, 0)", "drive(2, 0)")
                .due(4, "keep(1)").does("drive(3, 0)").due(5, "keep(1)");
        // THE ROW of ACTS goes on behind it.
        fen(WIDE).does("drive(0, 0)", "frost()").due(1, "keep(0)").due(2, "count(8)").due(1, "undo()").due(0, "undo()").due(STATE, "undo()");
        says(33, "SLOTS 0 to 1 keep");
        fen(WIDE).does("drive(0, 0)").due(1, "keep(0)").due(STATE, "again(1)").does("drive(1, 0)").due(2, "keep(1)")
                .due(1, "again(0)").due(1, "count(7)").due(2, "again(1)").due(3, "count(7)").due(1, "again(0)");
        // What is kept later in a slot stands there instead.
        fen(WIDE).due(0, "keep(0)").does("drive(3, 1)").due(1, "keep(0)").does("turnOut(3)").due(1, "again(0)").due(8, "count(7)");
    }

    private static void again() {
        says(34, "UNKNOWN;");
        fen(WIDE).does("keep(0)", "keep(1)").sides(UNKNOWN, "again(#)", 0, 1);
        choir().due(UNKNOWN, "again(2)", "again(-1)", "again(MIN)", "again(MAX)");
        says(34, "STATE: none were kept.");
        choir().due(STATE, "again(0)", "again(1)");
        fen(WIDE).does("drive(0, 0)").due(STATE, "again(0)", "again(1)").does("keep(1)").due(STATE, "again(0)").due(1, "again(1)");
        fen(WIDE).does("keep(0)", "keep(1)", "fen()").due(STATE, "again(0)", "again(1)");
        // A text that is no FEN lets what was kept stand.
        fen(WIDE).does("keep(0)", "wipe()").due(STATE, "fen()").due(0, "again(0)");
        choir().does("frost()", "keep(0)", "frost()").due(0, "again(0)").due(1, "count(5)");
        says(34, "They are as they were kept: how many are HOME.");
        fen(WIDE).does("drive(0, 0)", "drive(4, 0)", "keep(0)", "turnOut(0)").due(2, "again(0)", "again(0)").due(17, "count(7)");
        says(34, "(THE ROW of ACTS is empty when one goes on)");
        fen(WIDE).does("drive(0, 0)", "keep(0)", "frost()").due(2, "count(8)").due(1, "again(0)").due(0, "count(8)").due(STATE, "undo()")
                .does("frost()").due(1, "count(8)").due(0, "undo()").due(1, "count(7)");
    }

    private static void whatIsKept() {
        says(34, "keep NOTES, what was PASSED, is OPEN, OILED, who is HOME, FROST, what is SUNG");
        String[] acts = {"drive(1, 1)", "drive(2, 2)", "open(1)", "oil(2)", "oil(4)", "hang(3, false)", "hang(4, true)", "frost()"};
        Run run = fen(WIDE).does(acts).does("keep(0)");
        run.does("drive(0, 0)", "turnOut(1)", "open(1)", "open(0)", "oil(2)", "oil(3)", "hang(3, true)", "hang(0, false)", "frost()");
        run.due(2, "again(0)").dueRow("gate(#, 0)", 0, 2, 4, 4, 0).dueRow("gate(#, 2)", 1, 2, 0, 0, 3)
                .dueRow("gate(#, 3)", 0, 1, 0, 0, 0).dueRow("gate(#, 4)", 0, 0, 1, 0, 1).due(6, "count(7)").due(1, "count(5)")
                .dueRow("sung(#)", 10, 10, 10, 3, 2, 5, 4, 5, 4, 5, 4, 5);
        // One goes on from a copy: what is done then is not kept.
        run.does("drive(0, 0)", "frost()").due(2, "again(0)").due(6, "count(7)").due(1, "count(5)");
        // HEARD and THE SEED are not among what is kept.
        fen(WIDE).does("hear(0, 0, 1)", "seed(5)", "keep(0)", "hear(0, 0, 2)", "seed(6)").due(0, "again(0)").due(2, "count(9)").due(6, "seed(0)");
    }

    private static void count() {
        says(35, "OUTSIDE.");
        choir().sides(OUTSIDE, "count(#)", 0, 9);
        fen(WIDE).does("drive(0, 0)").sides(OUTSIDE, "count(#)", 0, 9);
        says(35, "0 letters of THE TEXT, 1 GATES, 2 LANES, 3 BEASTS, 4 VERSES, 5 1 if there is FROST");
        choir().dueRow("count(#)", 0, 0, 0, 0, 0, 0);
        choir().writes("x".repeat(60)).dueRow("count(#)", 60, 0, 0, 0, 0, 0);
        fen("C1" + WIDE.substring(2)).dueRow("count(#)", 54, 5, 3, 5, 2, 1);
        // The letters are those of THE TEXT, the rest is of THE FEN.
        fen(WIDE).does("wipe()").dueRow("count(#)", 0, 5, 3, 5, 2, 0);
        choir().writes("C1Ga0").dueRow("count(#)", 5, 0, 0, 0, 0, 0);
        says(35, "6 how much is SUNG, 7 who is HOME (bits), 8 ACTS in the row, 9 HEARD.");
        Run run = fen(WIDE).due(0, "count(6)", "count(7)", "count(8)", "count(9)").does("drive(4, 0)").due(3, "count(6)").due(16, "count(7)");
        run.does("drive(0, 0)", "drive(1, 1)").due(12, "count(6)").due(19, "count(7)").due(3, "count(8)");
        run.does("drive(2, 0)", "drive(3, 0)").due(12, "count(6)").due(31, "count(7)").due(5, "count(8)");
        for (int i = 1; i <= 10; i++) {
            run.does("open(0)").due(Math.min(5 + i, 14), "count(8)");
        }
        for (int i = 1; i <= 6; i++) {
            run.does("hear(0, 0, 0)").due(i, "count(9)");
        }
    }
}

/** Boundary cases of promises 11 to 17, sentence by sentence: acts. */
final class ActsEdgesTest extends Edges {
    /** Five beasts of every kind, and lanes of one gate each. */
    private static final String HERD = "C0Ga0Gl1Gd2L000L111L222B10B21B32B43B50";

    public static void main(String[] args) {
        driveRefused();
        driveDone();
        open();
        oil();
        hang();
        turnOut();
        frost();
        undoRefused();
        undoOfEach();
        undoOfFourteen();
        rowOfActs();
        end("ActsEdgesTest", 11, 17);
    }

    // ---- promise 11

    private static void driveRefused() {
        says(11, "UNKNOWN: beast, lane;");
        fen(HERD).sides(UNKNOWN, "drive(#, 0)", 0, 4).sides(UNKNOWN, "drive(0, #)", 0, 2);
        fen(SMALL).sides(UNKNOWN, "drive(#, 0)", 0, 1).sides(UNKNOWN, "drive(0, #)", 0, 0);
        fen("C0B10").noneIs(UNKNOWN, "drive(0, #)");
        fen("C0Ga0L000").noneIs(UNKNOWN, "drive(#, 0)");
        fen(HERD).due(UNKNOWN, "drive(5, 3)", "drive(-1, -1)", "drive(MIN, MAX)", "drive(MAX, MIN)");
        says(11, "STATE: it is HOME.");
        Run run = fen(HERD).does("drive(0, 0)", "drive(4, 2)").due(STATE, "drive(0, 0)", "drive(0, 1)", "drive(0, 2)", "drive(4, 0)");
        run.does("drive(1, 0)", "drive(2, 0)", "drive(3, 0)").due(31, "count(7)")
                .due(STATE, "drive(0, 0)", "drive(1, 0)", "drive(2, 0)", "drive(3, 0)", "drive(4, 0)")
                .does("turnOut(4)").due(3, "drive(4, 0)").due(STATE, "drive(4, 0)");
        says(11, "REFUSALS, of several the first that a call names");
        fen(HERD).does("drive(0, 0)", "drive(4, 0)")
                .due(UNKNOWN, "drive(0, 3)", "drive(0, -1)", "drive(0, MAX)", "drive(0, MIN)", "drive(4, 3)");
    }

    private static void driveDone() {
        says(11, "DRIVEN: how many TONES (no REST) it sang.");
        fen("C0Ga1Ga0L000L011L111B11B10").due(12, "drive(0, 0)").due(3, "drive(1, 2)");
        fen("C0Ga1Ga0L000L011L111B11B10").does("oil(0)").due(0, "drive(0, 0)").due(6, "count(6)").due(12, "sung(0)").due(2, "drive(1, 1)");
        fen("C0Ga3L000B40B50").due(0, "drive(0, 0)").due(3, "count(6)").due(3, "drive(1, 0)");
        says(11, "each GATE is PASSED 1 more for each time it is in the LANE (3 at most)");
        fen("C0Ga0Gb0Gc0L001L012B10B10B10B10").does("drive(0, 0)").dueRow("gate(#, 2)", 2, 1, 0)
                .does("drive(1, 0)").dueRow("gate(#, 2)", 3, 2, 0).does("drive(2, 0)").dueRow("gate(#, 2)", 3, 3, 0)
                .does("drive(3, 1)").dueRow("gate(#, 2)", 3, 3, 1);
        fen("C0Ga0Gb0L000B10B10").does("drive(0, 0)").dueRow("gate(#, 2)", 3, 0).does("drive(1, 0)").dueRow("gate(#, 2)", 3, 0);
        // Five gates beside each other: none of them is counted into the next one.
        fen("C0Ga0Ga0Ga0Ga0Ga0L333L444B10B10").does("drive(0, 0)").dueRow("gate(#, 2)", 0, 0, 0, 3, 0)
                .does("drive(1, 1)").dueRow("gate(#, 2)", 0, 0, 0, 3, 3);
        // An OPEN or OILED gate is PASSED as well.
        fen("C0Ga0Gb0L011B10").does("open(0)", "oil(1)").due(0, "drive(0, 0)").dueRow("gate(#, 2)", 1, 2);
        says(11, "it is HOME");
        fen(HERD).does("drive(4, 0)").dueRow("beast(#, 2)", 0, 0, 0, 0, 1).due(16, "count(7)");
    }

    // ---- promises 12 to 14

    private static void open() {
        says(12, "UNKNOWN.");
        fen(WIDE).sides(UNKNOWN, "open(#)", 0, 4);
        fen(SMALL).sides(UNKNOWN, "open(#)", 0, 1);
        choir().noneIs(UNKNOWN, "open(#)");
        says(12, "OPEN: 1 if it is so then, 0.");
        fen(WIDE).due(1, "open(0)", "open(4)").due(0, "open(0)", "open(4)").due(1, "open(4)")
                .dueRow("gate(#, 3)", 0, 0, 0, 0, 1).dueRow("gate(#, 4)", 0, 0, 0, 0, 0).due(5, "count(8)");
        says(12, "OPEN: a GATE is, or is not any more.");
        fen(WIDE).does("oil(2)").due(1, "open(2)").due(0, "open(2)").due(1, "gate(2, 4)").due(0, "gate(2, 3)");
    }

    private static void oil() {
        says(13, "UNKNOWN.");
        fen(WIDE).sides(UNKNOWN, "oil(#)", 0, 4);
        fen(SMALL).sides(UNKNOWN, "oil(#)", 0, 1);
        choir().noneIs(UNKNOWN, "oil(#)");
        says(13, "OILED: 1 if it is so then, 0.");
        fen(WIDE).due(1, "oil(0)", "oil(4)").due(0, "oil(0)", "oil(4)").due(1, "oil(4)")
                .dueRow("gate(#, 4)", 0, 0, 0, 0, 1).dueRow("gate(#, 3)", 0, 0, 0, 0, 0).due(5, "count(8)");
        says(13, "OILED: likewise.");
        fen(WIDE).does("open(2)").due(1, "oil(2)").due(0, "oil(2)").due(1, "gate(2, 3)").due(0, "gate(2, 4)");
    }

    private static void hang() {
        says(14, "UNKNOWN.");
        fen(WIDE).sides(UNKNOWN, "hang(#, true)", 0, 4).sides(UNKNOWN, "hang(#, false)", 0, 4);
        fen(SMALL).sides(UNKNOWN, "hang(#, true)", 0, 1);
        choir().noneIs(UNKNOWN, "hang(#, true)").noneIs(UNKNOWN, "hang(#, false)");
        says(14, "HUNG: a GATE's NOTE is 1 more, or less (by 12).");
        fen("C0Gk0Gb0Gl0Ga0Gf0").due(11, "hang(0, true)").due(0, "hang(0, true)").due(11, "hang(0, false)").due(10, "hang(0, false)")
                .due(0, "hang(1, false)").due(11, "hang(1, false)").due(0, "hang(1, true)", "hang(2, true)").due(11, "hang(3, false)")
                .due(6, "hang(4, true)").dueRow("gate(#, 0)", 10, 0, 0, 11, 6);
        // Once around, both ways.
        Run run = fen("C0Ga0Ga0Ga0");
        for (int i = 1; i <= 12; i++) {
            run.due(i % 12, "hang(1, true)").due(12 - i, "hang(2, false)");
        }
        run.dueRow("gate(#, 0)", 0, 0, 0);
        says(14, "HUNG: its NOTE then.");
        fen("C0Ga0L000B10").due(1, "hang(0, true)").due(1, "gate(0, 0)", "tone(0, 0)");
    }

    // ---- promises 15 and 16

    private static void turnOut() {
        says(15, "UNKNOWN;");
        String[] all = {"drive(0, 0)", "drive(1, 0)", "drive(2, 0)", "drive(3, 0)", "drive(4, 0)"};
        fen(HERD).does(all).sides(UNKNOWN, "turnOut(#)", 0, 4);
        fen(SMALL).does("drive(0, 0)", "drive(1, 0)").sides(UNKNOWN, "turnOut(#)", 0, 1);
        choir().noneIs(UNKNOWN, "turnOut(#)");
        says(15, "STATE: it is not HOME.");
        fen(HERD).due(STATE, "turnOut(0)", "turnOut(1)", "turnOut(2)", "turnOut(3)", "turnOut(4)");
        fen(HERD).does("drive(2, 0)").due(STATE, "turnOut(1)", "turnOut(3)").due(0, "turnOut(2)").due(STATE, "turnOut(2)");
        says(15, "TURNED OUT: how many are HOME.");
        fen(HERD).does(all).due(4, "turnOut(0)").due(3, "turnOut(4)").due(2, "turnOut(2)").due(1, "turnOut(1)").due(8, "count(7)")
                .due(0, "turnOut(3)").due(0, "count(7)").due(STATE, "turnOut(3)");
        says(15, "TURNED OUT: a BEAST is not HOME any more.");
        // What it sang and passed stays.
        fen(HERD).does("drive(0, 2)").due(0, "turnOut(0)").due(3, "count(6)", "gate(2, 2)").dueRow("sung(#)", 3, 3, 3, NONE);
    }

    private static void frost() {
        says(16, "FROST: 1 if there is some then, 0.");
        choir().due(1, "frost()").due(1, "count(5)").due(0, "frost()").due(0, "count(5)").due(1, "frost()").due(3, "count(8)");
        fen("C1").due(0, "frost()").due(1, "frost()");
        says(16, "FROST: there is some, or none any more.");
        fen("C0Gi0B10").due(8, "tone(0, 0)").due(1, "frost()").due(0, "tone(0, 0)").due(0, "frost()").due(8, "tone(0, 0)");
    }

    // ---- promise 17

    private static void undoRefused() {
        says(17, "STATE: there is none.");
        choir().due(STATE, "undo()", "undo()");
        fen(HERD).due(STATE, "undo()").does("frost()").due(0, "undo()").due(STATE, "undo()", "undo()");
        fen(HERD).does("drive(0, 0)", "fen()").due(STATE, "undo()");
        fen(HERD).does("drive(0, 0)", "keep(0)", "again(0)").due(STATE, "undo()").due(1, "count(7)");
        says(17, "The last ACT is undone: how many are left.");
        fen(HERD).does("frost()", "open(0)", "oil(1)").due(2, "undo()").due(0, "gate(1, 4)").due(1, "undo()").due(0, "gate(0, 3)")
                .due(0, "undo()").due(0, "count(5)").due(STATE, "undo()");
    }

    private static void undoOfEach() {
        says(17, "the last one can be undone");
        String herd = HERD.replace("C0", "C1");
        for (String text : new String[] {HERD, herd}) {
            fen(text).does("drive(1, 1)", "open(1)").alike("drive(0, 2); undo()", "").alike("open(0); undo()", "")
                    .alike("open(1); undo()", "").alike("oil(2); undo()", "").alike("hang(0, false); undo()", "")
                    .alike("hang(1, true); undo()", "").alike("turnOut(1); undo()", "").alike("frost(); undo()", "");
        }
        // What was lost by the last 12, and by 3 at most, is there again.
        fen("C0Ga1Gb0L000L011B11B10").does("drive(1, 1)").dueRow("gate(#, 2)", 1, 2).alike("drive(0, 0); undo()", "")
                .does("drive(0, 0)").dueRow("gate(#, 2)", 3, 2).due(12, "count(6)").due(1, "undo()")
                .dueRow("gate(#, 2)", 1, 2).dueRow("sung(#)", 1, 1, 0, 0, NONE);
        // OILED twice is two ACTS.
        fen(SMALL).does("oil(0)", "oil(0)").due(1, "undo()").due(1, "gate(0, 4)").due(0, "undo()").due(0, "gate(0, 4)");
    }

    private static void undoOfFourteen() {
        says(17, "are a row (14 at most; of more the first one is forgotten)");
        for (int acts = 13; acts <= 16; acts++) {
            Run run = fen("C0Ga0");
            for (int i = 0; i < acts; i++) {
                run.does("hang(0, true)");
            }
            int kept = Math.min(acts, 14);
            run.due(kept, "count(8)").due(acts % 12, "gate(0, 0)");
            for (int left = kept - 1; left >= 0; left--) {
                run.due(left, "undo()");
            }
            run.due(STATE, "undo()").due(acts - kept, "gate(0, 0)");
        }
        // Far more than once around, and with some undone between.
        Run run = fen("C0Ga0");
        for (int i = 0; i < 40; i++) {
            run.does("hang(0, true)");
        }
        run.due(14, "count(8)").due(13, "undo()").due(12, "undo()").due(2, "gate(0, 0)").does("frost()", "frost()", "frost()")
                .due(14, "count(8)").due(13, "undo()").due(12, "undo()").due(11, "undo()").due(2, "gate(0, 0)");
        for (int left = 10; left >= 0; left--) {
            run.due(left, "undo()");
        }
        // The row was acts 27 to 38 and three of FROST: of those fifteen act 27 is forgotten, and stays done.
        run.due(STATE, "undo()").due(27 % 12, "gate(0, 0)").due(0, "count(5)");
    }

    private static void rowOfActs() {
        says(17, "ACTS (DRIVEN, OPEN, OILED, HUNG, TURNED OUT, FROST) are a row");
        fen(HERD).does("drive(0, 0)").due(1, "count(8)").does("open(0)").due(2, "count(8)").does("oil(0)").due(3, "count(8)")
                .does("hang(0, true)").due(4, "count(8)").does("turnOut(0)").due(5, "count(8)").does("frost()").due(6, "count(8)");
        // What is not one of them is not in the row, and is not undone.
        fen(HERD).does("frost()", "keep(0)", "hear(0, 0, 0)", "seed(5)", "winters(3)", "write(67)").due(1, "count(8)").due(0, "undo()")
                .due(1, "count(9)").due(39, "count(0)").due(0, "again(0)").due(1, "count(5)");
        says(17, "What is refused changes nothing.");
        fen(HERD).does("drive(0, 0)").due(STATE, "drive(0, 0)", "turnOut(1)").due(UNKNOWN, "open(5)", "oil(5)", "hang(5, true)")
                .due(1, "count(8)").due(0, "undo()").due(0, "count(7)").due(STATE, "undo()");
    }
}

/** Boundary cases of promises 25 to 27, sentence by sentence: heard. */
final class HeardEdgesTest extends Edges {
    public static void main(String[] args) {
        hearRefused();
        hearFull();
        unhear();
        weightsRefused();
        weights();
        weightsOfGates();
        end("HeardEdgesTest", 25, 27);
    }

    private static final String[] SIX = {
        "hear(0, 0, 0)", "hear(1, 1, 1)", "hear(2, 0, 12)", "hear(3, 1, 11)", "hear(0, 1, 1)", "hear(0, 0, 0)"};

    private static void hearRefused() {
        says(25, "UNKNOWN: gate;");
        fen(WIDE).sides(UNKNOWN, "hear(0, #, 0)", 0, 4);
        fen(SMALL).sides(UNKNOWN, "hear(3, #, 12)", 0, 1);
        choir().noneIs(UNKNOWN, "hear(0, #, 0)");
        says(25, "OUTSIDE: kind, tone;");
        fen(WIDE).sides(OUTSIDE, "hear(#, 0, 0)", 0, 3).sides(OUTSIDE, "hear(0, 0, #)", 0, 12)
                .due(OUTSIDE, "hear(4, 4, 13)", "hear(-1, 0, -1)", "hear(MIN, 0, MAX)");
        says(25, "REFUSALS, of several the first that a call names");
        // The gate is named first, though it is told second.
        fen(WIDE).due(UNKNOWN, "hear(4, 5, 0)", "hear(-1, -1, 0)", "hear(0, 5, 13)", "hear(0, -1, -1)", "hear(MIN, MAX, MIN)");
        choir().due(UNKNOWN, "hear(4, 0, 13)");
        fen(SMALL).does(SIX).due(UNKNOWN, "hear(0, 2, 0)", "hear(0, -1, 0)", "hear(4, 2, 13)").due(OUTSIDE, "hear(4, 0, 0)", "hear(-1, 0, 0)")
                .due(OUTSIDE, "hear(0, 0, 13)", "hear(0, 0, -1)", "hear(MAX, 1, MIN)");
    }

    private static void hearFull() {
        says(25, "FULL: 6.");
        Run run = fen(SMALL);
        for (int i = 0; i < 6; i++) {
            run.due(i, "count(9)").due(i + 1, SIX[i]);
        }
        run.due(FULL, "hear(0, 0, 0)", "hear(3, 1, 12)").due(6, "count(9)").due(6, "unhear()").due(1, "hear(0, 0, 0)");
        says(25, "HEARD: how many there are.");
        // A FEN made anew makes no room: HEARD stays.
        fen(SMALL).does(SIX).does("fen()").due(FULL, "hear(0, 0, 0)");
        // It needs no BEAST of that KIND, and not that the TONE is so.
        fen("C0Ga0").due(1, "hear(3, 0, 12)").due(2, "hear(2, 0, 6)").due(0, "weights(3)", "weights(2)", "count(8)");
    }

    private static void unhear() {
        says(26, "Nothing is HEARD: how much there was.");
        choir().due(0, "unhear()", "unhear()");
        fen(SMALL).does("hear(0, 0, 0)").due(1, "unhear()").due(0, "unhear()", "count(9)");
        fen(SMALL).does(SIX).due(6, "unhear()").due(0, "unhear()").dueRow("weights(#)", 1022, 1022, 1022, 1022);
    }

    private static void weightsRefused() {
        says(27, "WEIGHTS, as bits. OUTSIDE: kind.");
        choir().sides(OUTSIDE, "weights(#)", 0, 3);
        fen(SMALL).does(SIX).sides(OUTSIDE, "weights(#)", 0, 3);
    }

    private static void weights() {
        says(27, "WEIGHTS of a KIND: those (bits 1 to 9) by which all that is HEARD of that KIND is so.");
        fen("C0Ga0").due(1022, "weights(0)").does("hear(0, 0, 0)").dueRow("weights(#)", 1 << 1, 1022, 1022, 1022);
        // Half of the WEIGHT, cut, for each TONE that a COW can give at a, and one beyond.
        int[] cow = {1 << 1, 1 << 2 | 1 << 3, 1 << 4 | 1 << 5, 1 << 6 | 1 << 7, 1 << 8 | 1 << 9, 0};
        int[] pony = {1 << 1 | 1 << 2 | 1 << 3, 1 << 4 | 1 << 5 | 1 << 6 | 1 << 7, 1 << 8 | 1 << 9, 0};
        for (int tone = 0; tone < cow.length; tone++) {
            fen("C0Ga0").does("hear(0, 0, " + tone + ")", "hear(1, 0, " + tone + ")").due(cow[tone], "weights(0)", "weights(1)");
        }
        for (int tone = 0; tone < pony.length; tone++) {
            fen("C0Ga0").does("hear(3, 0, " + tone + ")").due(pony[tone], "weights(3)");
        }
        // A BULL gives 5 less: 7 by 1, 11 by 8 and 9.
        fen("C0Ga0").does("hear(2, 0, 7)").due(1 << 1, "weights(2)");
        fen("C0Ga0").does("hear(2, 0, 11)").due(1 << 8 | 1 << 9, "weights(2)");
        // A REST at a STIFF GATE is less than 5; no TONE and no REST can both be.
        fen("C0Ga3Ga0").does("hear(0, 0, 12)").due(0x1E, "weights(0)").does("hear(0, 1, 2)").due(1 << 4, "weights(0)").does("hear(0, 0, 2)").due(0, "weights(0)");
        fen("C0Ga3").does("hear(0, 0, 2)").due(1 << 5, "weights(0)");
        fen("C0Ga0").does("hear(0, 0, 12)").due(0, "weights(0)").does("open(0)").due(1022, "weights(0)");
        // All six are looked at, the first and the last as well.
        fen("C0Ga0").does("hear(0, 0, 0)", "hear(0, 0, 0)", "hear(0, 0, 0)", "hear(0, 0, 0)", "hear(0, 0, 0)").due(2, "weights(0)")
                .does("hear(0, 0, 1)").due(0, "weights(0)");
    }

    private static void weightsOfGates() {
        says(27, "gave a TONE (0 to 12) at a GATE as it is now");
        fen("C0Ga2L000B10").does("hear(0, 0, 1)").due(0xC, "weights(0)").does("hang(0, true)").due(2, "weights(0)").does("hang(0, true)")
                .due(0, "weights(0)").does("drive(0, 0)").due(0x30, "weights(0)").does("undo()", "undo()", "undo()").due(0xC, "weights(0)")
                .does("frost()").due(0, "weights(0)").does("frost()", "oil(0)").due(0, "weights(0)");
        says(27, "(of GATES that there are not any more nothing is looked at)");
        Run run = fen("C0Ga0Ga0").does("hear(0, 1, 0)", "hear(0, 0, 0)").due(2, "weights(0)");
        run.fen("C0Gb0").due(2, "count(9)").due(0, "weights(0)").fen("C0").due(1022, "weights(0)").due(2, "count(9)");
        // There are two again: both are looked at.
        run.fen("C0Gl0Ga0").due(0, "weights(0)").fen("C0Ga0Gl0").due(0, "weights(0)").fen("C0Ga0Ga0").due(2, "weights(0)");
        fen("C0Ga0Ga0").does("hear(0, 1, 3)").due(0xC0, "weights(0)").fen("C0Ga0").due(1022, "weights(0)");
    }
}

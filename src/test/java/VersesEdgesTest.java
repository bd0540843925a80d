/** Boundary cases of promises 18 to 24, sentence by sentence: verses. */
final class VersesEdgesTest extends Edges {
    public static void main(String[] args) {
        fit();
        harmonyRefused();
        harmony();
        bestRefused();
        bestRow();
        fewest();
        has();
        silence();
        judgeRefused();
        judgeOfFigures();
        judgeOfPlaces();
        end("VersesEdgesTest", 18, 24);
    }

    // ---- promise 18

    private static void fit() {
        says(18, "FIT. UNKNOWN.");
        fen(WIDE).sides(UNKNOWN, "fit(#)", 0, 1);
        fen(SMALL).sides(UNKNOWN, "fit(#)", 0, 0);
        choir().noneIs(UNKNOWN, "fit(#)");
        says(18, "at how many of its four places the last four that are SUNG are like it");
        // Exactly four are SUNG: 0 0 1 1; then 1 1 1 1 1 1 behind that.
        fen("C0Ga1Gb0L011L111B10B10B10VaabbVbbbb").does("drive(0, 0)").due(4, "count(6)").dueRow("fit(#)", 4, 2)
                .does("drive(1, 1)").dueRow("fit(#)", 2, 4).does("drive(2, 0)").dueRow("fit(#)", 4, 2);
        fen("C0Ga1Gb0L011B10VlaabVdddd").does("drive(0, 0)").dueRow("fit(#)", 2, 0);
        says(18, "(fewer than four: they are at its end)");
        // 0 1 2 are SUNG: they are at the second, third and fourth place.
        fen("C0Ga0Gb0Gc0L012B10VdabcVabcd").dueRow("fit(#)", 0, 0).does("drive(0, 0)").due(3, "count(6)").dueRow("fit(#)", 3, 0);
        // Where nothing is SUNG, there is no REST either; where a REST is, it is like a REST.
        fen("C0Ga0L000B10V----V-aaa").dueRow("fit(#)", 0, 0).does("drive(0, 0)").dueRow("fit(#)", 0, 3)
                .does("undo()", "oil(0)", "drive(0, 0)").dueRow("fit(#)", 3, 0).does("turnOut(0)", "drive(0, 0)").dueRow("fit(#)", 4, 1);
    }

    // ---- promise 19

    private static void harmonyRefused() {
        says(19, "UNKNOWN: one, lane, other, otherLane.");
        fen(WIDE).sides(UNKNOWN, "harmony(#, 0, 0, 0)", 0, 4).sides(UNKNOWN, "harmony(0, #, 0, 0)", 0, 2)
                .sides(UNKNOWN, "harmony(0, 0, #, 0)", 0, 4).sides(UNKNOWN, "harmony(0, 0, 0, #)", 0, 2)
                .due(UNKNOWN, "harmony(5, 3, 5, 3)", "harmony(MIN, MAX, MIN, MAX)");
        fen(SMALL).sides(UNKNOWN, "harmony(#, 0, 1, 0)", 0, 1).sides(UNKNOWN, "harmony(1, #, 1, 0)", 0, 0)
                .sides(UNKNOWN, "harmony(1, 0, #, 0)", 0, 1).sides(UNKNOWN, "harmony(1, 0, 1, #)", 0, 0);
        fen("C0B10").noneIs(UNKNOWN, "harmony(0, #, 0, #)");
        fen("C0Ga0L000").noneIs(UNKNOWN, "harmony(#, 0, #, 0)");
    }

    private static void harmony() {
        says(19, "the TONES are 0, 3, 4, 5, 7, 8 or 9 apart (the greater one less the lesser)");
        Run run = fen("C0Ga0Ga0L000L111B10");
        int[] want = {3, 0, 0, 3, 3, 3, 0, 3, 3, 3, 0, 0};
        for (int apart = 0; apart < 12; apart++) {
            run.due(want[apart], "harmony(0, 0, 0, 1)", "harmony(0, 1, 0, 0)").does("hang(1, true)");
        }
        says(19, "at how many places of both SONGS (of the shorter one)");
        // 0 0 0 against 0 1 0 1 0 1, and both calves 12 long.
        fen("C0Ga0L000B10B11").due(2, "harmony(0, 0, 1, 0)", "harmony(1, 0, 0, 0)").due(6, "harmony(1, 0, 1, 0)");
        fen("C0Ga1L000B11B11").due(12, "harmony(0, 0, 1, 0)", "harmony(0, 0, 0, 0)");
        // 0 0 0 against 0 0 0 0 0 0: the longer one's second half has no place beside it.
        fen("C0Ga0Ga1L000L111B10").due(3, "harmony(0, 0, 0, 1)", "harmony(0, 1, 0, 0)").due(6, "harmony(0, 1, 0, 1)");
        says(19, "both are no REST");
        // One REST, the other REST, both REST: 12 and 12 are 0 apart, 12 and 9 are 3 apart.
        fen("C0Gj0Gj0L000L111B10").due(3, "harmony(0, 0, 0, 1)").does("oil(0)").due(0, "harmony(0, 0, 0, 1)", "harmony(0, 1, 0, 0)")
                .does("oil(1)").due(0, "harmony(0, 0, 0, 1)").does("oil(0)").due(0, "harmony(0, 0, 0, 1)");
        fen("C0Ga0Ga0L001L011B10").does("open(1)").due(1, "harmony(0, 0, 0, 1)").due(2, "harmony(0, 0, 0, 0)");
    }

    // ---- promises 20 and 21

    private static void bestRefused() {
        says(20, "UNKNOWN; OUTSIDE: n.");
        fen(WIDE).sides(UNKNOWN, "best(#, 1, true)", 0, 1).sides(UNKNOWN, "best(#, 3, false)", 0, 1)
                .sides(OUTSIDE, "best(0, #, true)", 1, 3).sides(OUTSIDE, "best(1, #, false)", 1, 3);
        fen(SMALL).sides(UNKNOWN, "best(#, 1, false)", 0, 0).sides(OUTSIDE, "best(0, #, false)", 1, 3);
        choir().noneIs(UNKNOWN, "best(#, 1, true)");
        says(20, "REFUSALS, of several the first that a call names");
        fen(WIDE).due(UNKNOWN, "best(2, 0, true)", "best(-1, 4, false)", "best(MIN, MAX, true)", "best(MAX, MIN, false)");
        choir().due(UNKNOWN, "best(0, 0, true)");
        says(20, "NONE: there is no such row.");
        String[] ones = {"best(0, 1, true)", "best(0, 1, false)"};
        String[] twos = {"best(0, 2, true)", "best(0, 2, false)"};
        String[] threes = {"best(0, 3, true)", "best(0, 3, false)"};
        fen("C0Vaaaa").due(NONE, ones).due(NONE, twos).due(NONE, threes);
        fen("C0Ga0B10B10B10Vaaaa").due(NONE, ones).due(NONE, threes);
        fen("C0Ga0L000Vaaaa").due(NONE, ones);
        // As many as are not HOME, and one more than that; none that fits is a row all the same.
        fen("C0Ga0L000B10B10B10Vbbbb").due(0, "best(0, 3, false)").does("drive(0, 0)").due(NONE, threes).due(0, "best(0, 2, false)")
                .does("drive(1, 0)").due(NONE, twos).due(0, "best(0, 1, false)").does("drive(2, 0)").due(NONE, ones);
        fen("C0Ga0L000B10B10Vaaaa").due(NONE, threes).due(1121, "best(0, 2, true)").due(4, "best(0, 2, false)")
                .due(3, "best(0, 1, false)").due(11, "best(0, 1, true)").does("drive(0, 0)").due(21, "best(0, 1, true)")
                .does("turnOut(0)").due(1121, "best(0, 2, true)");
        // The FIT that is already there is no drive, and is lost by one.
        fen("C0Ga0Gb0L000L111B10B10B10Vaaaa").does("drive(0, 0)", "drive(1, 0)").due(4, "fit(0)").due(4, "best(0, 1, false)")
                .does("hang(0, true)").due(4, "fit(0)").due(1, "best(0, 1, false)");
    }

    private static void bestRow() {
        says(20, "the first such row (two figures each, BEAST and LANE, 1 more each; the least as a number)");
        fen("C0Ga0L000L000L000B10B10B10B10B10Vllll").due(11, "best(0, 1, true)").due(1121, "best(0, 2, true)").due(112131, "best(0, 3, true)")
                .due(0, "best(0, 1, false)", "best(0, 2, false)", "best(0, 3, false)");
        // By the last BEAST in the last LANE alone: 6 6 6.
        fen("C0Ga0Gf0L000L000L111B10B10B10B10B20Vgggg").due(53, "best(0, 1, true)").due(1153, "best(0, 2, true)").due(112153, "best(0, 3, true)")
                .due(3, "best(0, 1, false)", "best(0, 2, false)", "best(0, 3, false)");
        // 8 is BEAST 3's, 7 BEAST 2's, in LANE 2 alone: 8 7 7 7.
        fen("C0Ga0Gf0L000L000L111B10B10B40B60B10VihhhVhiii").due(33, "best(0, 1, true)").due(4333, "best(0, 2, true)")
                .due(114333, "best(0, 3, true)").due(3343, "best(1, 2, true)").due(4, "best(0, 2, false)", "best(0, 3, false)");
        // Of two rows that fit alike the least is told, also where the greater one is tried with less HOME.
        fen("C0Ga0L000L000B10B10Vaaaa").does("drive(0, 0)", "turnOut(0)").due(11, "best(0, 1, true)").does("drive(0, 1)").due(21, "best(0, 1, true)");
        says(20, "of all rows of n BEASTS that are DRIVEN, one behind the other");
        // A DRY GATE: only what was driven ahead makes it sing 3.
        fen("C0Gg2L000B10B10B10VdddgVgddd").due(1, "best(0, 1, false)").due(0, "best(1, 1, false)").due(4, "best(1, 2, false)")
                .due(1121, "best(1, 2, true)").due(3, "best(1, 3, false)").due(112131, "best(1, 3, true)");
    }

    private static void fewest() {
        says(21, "FEWEST; NONE. UNKNOWN.");
        fen(WIDE).sides(UNKNOWN, "fewest(#)", 0, 1);
        fen(SMALL).sides(UNKNOWN, "fewest(#)", 0, 0);
        choir().noneIs(UNKNOWN, "fewest(#)");
        fen("C0Vaaaa").due(NONE, "fewest(0)");
        fen("C0V----").due(NONE, "fewest(0)");
        says(21, "the least number of BEASTS (0 to 3) that are DRIVEN, by which the FIT is 4; NONE.");
        // The last of 1 1 and 3 less what was PASSED: 1 1 1 0 wants four, one fewer for each that was driven.
        Run run = fen("C0Gd2Gb0L110B10B10B10B10B10Vbbba").due(NONE, "fewest(0)").does("drive(0, 0)").due(3, "fewest(0)")
                .does("drive(1, 0)").due(2, "fewest(0)").does("drive(2, 0)").due(1, "fewest(0)").does("drive(3, 0)").due(0, "fewest(0)");
        run.does("drive(4, 0)").due(NONE, "fewest(0)");
        fen("C0Ga1L000B10Vaaaa").due(1, "fewest(0)").does("drive(0, 0)").due(0, "fewest(0)");
        // Enough by what they sing, but not as many as that are not HOME.
        fen("C0Ga0L000B10B10Vaaaa").due(2, "fewest(0)").does("open(0)", "drive(0, 0)", "open(0)").due(NONE, "fewest(0)")
                .does("turnOut(0)").due(2, "fewest(0)");
    }

    // ---- promises 22 and 23

    private static void has() {
        says(22, "UNKNOWN: verse, lane.");
        fen(WIDE).sides(UNKNOWN, "has(#, 0)", 0, 1).sides(UNKNOWN, "has(0, #)", 0, 2).due(UNKNOWN, "has(2, 3)", "has(-1, -1)", "has(MIN, MAX)");
        fen(SMALL).sides(UNKNOWN, "has(#, 0)", 0, 0).sides(UNKNOWN, "has(0, #)", 0, 0);
        fen("C0Vaaaa").noneIs(UNKNOWN, "has(0, #)");
        fen("C0Ga0L000B10").noneIs(UNKNOWN, "has(#, 0)");
        says(22, "all TONES of a VERSE (RESTS set aside) come");
        fen("C0Ga0Gb0L011B10B11B20B30B90VabbaV----").due(3, "has(0, 0)").due(31, "has(1, 0)").does("oil(1)").due(2, "has(0, 0)")
                .does("oil(0)").due(0, "has(0, 0)").due(31, "has(1, 0)");
        // Each of the four places is wanted.
        fen("C0Ga0L000B10VlaaaValaa").dueRow("has(#, 0)", 0, 0);
        fen("C0Ga0L000B10VaalaVaaal").dueRow("has(#, 0)", 0, 0);
        fen("C0Ga0L000B10VaaaaV-a--").dueRow("has(#, 0)", 1, 1);
        fen("C0Ga0L000Vaaaa").due(0, "has(0, 0)");
        fen("C0Ga0L000V----").due(0, "has(0, 0)");
        fen("C0Ga0L000B10B10B10B10B90Veee-V-a-l").due(16, "has(0, 0)").due(0, "has(1, 0)").does("hang(0, false)").due(0, "has(1, 0)");
        // 11 and the 0 behind it are both TONES of the CALF; who is HOME has its SONG as well.
        fen("C0Gl0L000B10B11V-al-").due(2, "has(0, 0)").does("drive(1, 0)").due(2, "has(0, 0)");
    }

    private static void silence() {
        says(23, "SILENCE, as bits. UNKNOWN.");
        fen(WIDE).sides(UNKNOWN, "silence(#)", 0, 2);
        fen(SMALL).sides(UNKNOWN, "silence(#)", 0, 0);
        choir().noneIs(UNKNOWN, "silence(#)");
        says(23, "the fewest GATES (bits; of like ones the least) by which, OILED, the SONG of each BEAST in it is nothing but RESTS");
        fen("C0Ga0Ga0Ga0Ga0Ga0L234L000L414B10").dueRow("silence(#)", 28, 1, 18).does("oil(3)").dueRow("silence(#)", 20, 1, 18)
                .does("open(4)").dueRow("silence(#)", 4, 1, 2).does("oil(4)").due(4, "silence(0)").does("open(2)").due(0, "silence(0)");
        fen("C0Ga0L000").due(0, "silence(0)");
        // By one BEAST of 5 or more a STIFF GATE is to be oiled.
        fen("C0Ga3Ga0L001B40B10").due(2, "silence(0)");
        fen("C0Ga3Ga0L001B40B53").due(3, "silence(0)").does("drive(1, 0)").due(3, "silence(0)");
        fen("C0Ga3L000B40").due(0, "silence(0)");
    }

    // ---- promise 24

    private static void judgeRefused() {
        says(24, "OUTSIDE: n, row (0 or more, 2 n figures at most).");
        fen(WIDE).sides(OUTSIDE, "judge(#, 0)", 1, 4).sides(OUTSIDE, "judge(1, #)", 0, 99).sides(OUTSIDE, "judge(2, #)", 0, 9999)
                .sides(OUTSIDE, "judge(3, #)", 0, 999999).sides(OUTSIDE, "judge(4, #)", 0, 99999999)
                .due(OUTSIDE, "judge(0, 100)", "judge(5, -1)", "judge(MIN, MIN)", "judge(MAX, MAX)", "judge(-1, 0)", "judge(0, -1)");
        choir().sides(OUTSIDE, "judge(#, 0)", 1, 4).sides(OUTSIDE, "judge(1, #)", 0, 99).due(0, "judge(1, 99)", "judge(4, 99999999)");
        says(24, "JUDGED; NONE.");
        fen(WIDE).due(NONE, "judge(1, 0)", "judge(1, 42)");
        // Figures ahead that are not written are 0: BEAST 0 is DRIVEN through LANE 0.
        fen(WIDE).due(NONE, "judge(2, 10)").due(1, "judge(2, 0)", "judge(3, 0)", "judge(4, 0)").due(NONE, "judge(2, 70)");
    }

    private static void judgeOfFigures() {
        says(24, "(0 to 4 and a LANE: that BEAST is DRIVEN;");
        fen(WIDE).dueRow("judge(1, #)", NONE, NONE, NONE, 0, 0, 0, 0, 0, 0, 0)
                .due(NONE, "judge(1, 40)", "judge(1, 41)", "judge(1, 42)").due(0, "judge(1, 43)", "judge(1, 49)")
                .does("drive(4, 0)").due(0, "judge(1, 42)").due(NONE, "judge(1, 32)");
        fen(SMALL).due(NONE, "judge(1, 10)").due(0, "judge(1, 11)", "judge(1, 20)");
        says(24, "5 and a GATE: OPEN; 6 and a GATE: OILED;");
        fen(WIDE).dueRow("judge(1, 5#)", NONE, NONE, NONE, NONE, NONE, 0, 0, 0, 0, 0).dueRow("judge(1, 6#)", NONE, NONE, NONE, NONE, NONE, 0, 0, 0, 0, 0);
        fen(SMALL).dueRow("judge(1, 5#)", NONE, NONE, 0).dueRow("judge(1, 6#)", NONE, NONE, 0);
        // OPEN or OILED and not any more: the second time it sings again.
        fen("C0Ga0L000B10Vaaaa").due(NONE, "judge(2, 80)", "judge(4, 50500080)", "judge(4, 60600080)")
                .due(2, "judge(3, 500080)", "judge(3, 600080)").due(3, "judge(4, 50600080)");
        says(24, "7 and a BEAST: TURNED OUT;");
        fen(WIDE).dueRow("judge(1, 7#)", 0, 0, 0, 0, 0, 0, 0, 0, 0, 0).does("drive(0, 0)", "drive(4, 0)")
                .dueRow("judge(1, 7#)", NONE, 0, 0, 0, NONE, 0, 0, 0, 0, 0).due(NONE, "judge(2, 7000)", "judge(2, 7442)").due(1, "judge(2, 7070)");
        says(24, "8 and a VERSE: the FIT is 3 or more then)");
        // 0 0 0 are SUNG: the FIT is 3 of aaaa, 2 of aaab; one more drive, and it is 4 and 3.
        fen("C0Ga0L000B10B10VaaaaVaaab").due(0, "judge(1, 80)", "judge(1, 81)", "judge(1, 82)", "judge(1, 89)").does("drive(0, 0)")
                .dueRow("fit(#)", 3, 2).due(NONE, "judge(1, 80)").due(0, "judge(1, 81)").due(NONE, "judge(2, 1080)", "judge(2, 1081)");
        fen(SMALL).due(0, "judge(1, 81)");
        says(24, "told as two figures each");
        fen(WIDE).dueRow("judge(1, 9#)", 0, 0, 0, 0, 0, 0, 0, 0, 0, 0);
    }

    private static void judgeOfPlaces() {
        says(24, "the place of the first that can not be (or is not so); NONE: none.");
        fen(WIDE).due(0, "judge(4, 90102030)").due(1, "judge(4, 10902030)").due(2, "judge(4, 10209030)").due(3, "judge(4, 10203090)")
                .due(NONE, "judge(4, 10203040)").due(1, "judge(4, 10999999)", "judge(4, 10101010)").due(0, "judge(4, 99999999)");
        choir().due(0, "judge(1, 0)", "judge(1, 50)", "judge(1, 60)", "judge(1, 70)", "judge(1, 80)", "judge(4, 0)");
        says(24, "In what follows nothing is changed.");
        fen(WIDE).does("drive(0, 0)").due(NONE, "judge(4, 10516270)").due(1, "count(7)", "count(8)")
                .due(0, "gate(1, 3)", "gate(2, 4)");
    }
}

/** Boundary cases of promises 1 to 10, sentence by sentence: a new object, and the fen. */
final class FenEdgesTest extends Edges {
    /** All that a fen can have: 54 letters. */
    private static final String MOST = "C0V----V----Ga0Ga0Ga0Ga0Ga0B10B10B10B10B10L000L000L000";

    public static void main(String[] args) {
        newObject();
        lastCall();
        write();
        wipe();
        faultOfTheStart();
        faultOfHowMany();
        faultOfGates();
        faultOfLanes();
        faultOfBeasts();
        faultOfVerses();
        faultOfPlaces();
        fenRefused();
        fenMade();
        gate();
        beast();
        toneByWeight();
        toneByTwelve();
        toneOfRests();
        song();
        sung();
        end("FenEdgesTest", 1, 10);
    }

    // ---- promise 1

    private static void newObject() {
        says(1, "`GateChoir()`: Nothing.");
        choir().dueRow("count(#)", 0, 0, 0, 0, 0, 0, 0, 0, 0, 0)
                .due(UNKNOWN, "gate(0, 0)", "beast(0, 0)", "tone(0, 0)", "song(0, 0, 0)", "drive(0, 0)", "open(0)")
                .due(UNKNOWN, "oil(0)", "hang(0, true)", "turnOut(0)", "fit(0)", "harmony(0, 0, 0, 0)")
                .due(UNKNOWN, "best(0, 1, true)", "fewest(0)", "has(0, 0)", "silence(0)", "hear(0, 0, 0)")
                .due(UNKNOWN, "share(0, 0, true)", "rests(0, 1, 0)", "drips(0, 0, 0, 0, true)")
                .due(STATE, "fen()", "undo()", "again(0)", "again(1)")
                .dueRow("sung(#)", NONE, NONE, NONE, NONE, NONE, NONE, NONE, NONE, NONE, NONE, NONE, NONE)
                .due(0, "fault()", "judge(1, 0)", "wipe()", "unhear()");
        says(1, "At first there is nothing, no FROST.");
        choir().due(0, "count(5)").due(1, "frost()").due(0, "undo()").due(0, "count(5)").due(STATE, "undo()");
        says(1, "6 such at most, none at first");
        choir().due(0, "count(9)", "unhear()").dueRow("weights(#)", 1022, 1022, 1022, 1022);
        says(1, "THE SEED, a long; 0 at first");
        choir().due(0, "seed(0)");
        says(1, "NONE is -9.");
        choir().due(-9, "sung(0)");
        // One choir's calls are not another's.
        Run one = fen(WIDE).does("drive(0, 0)", "keep(0)", "hear(0, 0, 1)", "seed(5)");
        choir().dueRow("count(#)", 0, 0, 0, 0, 0, 0, 0, 0, 0, 0).due(STATE, "again(0)").due(0, "seed(0)");
        one.dueRow("count(#)", 54, 5, 3, 5, 2, 0, 3, 1, 1, 1);
    }

    private static void lastCall() {
        says(1, "An object is used for at most 512 calls after it has been made");
        // 25 calls make the fen; the last of 512 is answered as ever.
        for (int last = 0; last < 3; last++) {
            Run run = fen(SMALL);
            for (int call = 26; call <= 511; call++) {
                run.does("frost()");
            }
            switch (last) {
                case 0: run.due(1, "frost()"); break;
                case 1: run.due(13, "undo()"); break;
                default: run.due(4, "drive(0, 0)"); break;
            }
        }
    }

    // ---- promises 2 and 3

    private static String many(String letter, int times) {
        return letter.repeat(times);
    }

    private static void write() {
        says(2, "A letter (0 to 255) comes behind THE TEXT: how long it is. OUTSIDE;");
        choir().sides(OUTSIDE, "write(#)", 0, 255);
        choir().due(1, "write(0)").due(2, "write(255)").due(2, "count(0)");
        choir().writes("C0Ga").due(OUTSIDE, "write(256)", "write(-1)").due(5, "write(48)").due(1000, "fen()");
        // 304 is 48, the letter 0, in eight bits.
        choir().writes("C").due(OUTSIDE, "write(304)", "write(-208)").due(1, "fault()");
        says(2, "FULL: there are 60.");
        choir().writes(many("x", 58)).due(59, "write(120)").due(60, "write(120)").due(FULL, "write(120)")
                .due(60, "count(0)").due(FULL, "write(0)", "write(255)", "write(67)").due(60, "wipe()").due(1, "write(67)");
        says(2, "THE TEXT is letters (60 at most).");
        choir().writes(MOST).writes("xxxxxx").due(FULL, "write(120)").due(54, "fault()");
        says(2, "REFUSALS, of several the first that a call names");
        choir().writes(many("x", 60)).due(OUTSIDE, "write(256)", "write(-1)", "write(MIN)", "write(MAX)");
    }

    private static void wipe() {
        says(3, "THE TEXT is empty: how long it was.");
        choir().due(0, "wipe()", "wipe()").due(1, "write(67)").due(1, "wipe()").due(0, "wipe()", "count(0)", "fault()");
        choir().writes(many("x", 60)).due(60, "wipe()").due(0, "wipe()").writes("C0").due(NONE, "fault()");
        // THE FEN, what was kept and THE ROW of ACTS are not THE TEXT.
        fen(SMALL).does("drive(0, 0)", "keep(1)").due(23, "wipe()")
                .dueRow("count(#)", 0, 2, 1, 2, 1, 0, 4, 1, 1, 0).due(1, "again(1)");
    }

    // ---- promise 4

    private static void faults(int place, String... texts) {
        for (String text : texts) {
            choir().writes(text).due(place, "fault()");
        }
    }

    /** What a text ends by one letter: those that are right there, and the nearest that are not. */
    private static void lastLetter(String ahead, String right, String wrong) {
        for (int i = 0; i < right.length(); i++) {
            faults(NONE, ahead + right.charAt(i));
        }
        for (int i = 0; i < wrong.length(); i++) {
            faults(ahead.length(), ahead + wrong.charAt(i));
        }
        faults(ahead.length(), ahead, ahead + (char) 0, ahead + (char) 255);
    }

    private static void faultOfTheStart() {
        says(4, "A FEN is a TEXT: C, FROST (0, 1), then PARTS, none or more");
        faults(0, "", "B", "D", "c", "0", "" + (char) 0, "" + (char) 255, " C0", "GC0");
        lastLetter("C", "01", "/23C");
        faults(NONE, "C0", "C1", "C0Ga0", "C1B10", "C0Vabcd");
        // Beside each letter that begins a part are two that do not.
        faults(2, "C0F", "C0H", "C0K", "C0M", "C0A", "C0C", "C0U", "C0W", "C0g", "C0l", "C0b", "C0v", "C00", "C0 ");
        faults(2, "C0" + (char) 0, "C0" + (char) 255);
    }

    private static void faultOfHowMany() {
        says(4, "GATES (5 at most)");
        faults(NONE, "C0" + many("Ga0", 5));
        faults(17, "C0" + many("Ga0", 5) + "G", "C0" + many("Ga0", 6));
        faults(20, "C0" + many("Ga0", 5) + "B10G");
        says(4, "LANES (3 at most)");
        faults(NONE, "C0Ga0" + many("L000", 3));
        faults(17, "C0Ga0" + many("L000", 3) + "L", "C0Ga0" + many("L000", 4));
        says(4, "BEASTS (5 at most)");
        faults(NONE, "C0" + many("B10", 5));
        faults(17, "C0" + many("B10", 5) + "B", "C0" + many("B10", 6));
        says(4, "VERSES (2 at most)");
        faults(NONE, "C0" + many("V----", 2));
        faults(12, "C0" + many("V----", 2) + "V", "C0" + many("V----", 3));
    }

    private static void faultOfGates() {
        says(4, "a GATE of NOTE n (a to l: a is 0, b 1, .. l 11)");
        faults(NONE, "C0Ga0", "C0Gl0");
        faults(3, "C0G`0", "C0Gm0", "C0GA0", "C0GL0", "C0G-0", "C0G00", "C0G" + (char) 0, "C0G" + (char) 255);
        says(4, "of KIND k: 0 PLAIN, 1 SWINGING, 2 DRY, 3 STIFF");
        lastLetter("C0Ga", "0123", "/4a-");
    }

    private static void faultOfLanes() {
        says(4, "a LANE of GATES i, j, k (told ahead; also the same again)");
        lastLetter("C0Ga0Gb0L01", "01", "/234a");
        faults(NONE, "C0Ga0L000", "C0Ga0Gb0L111", "C0Ga0Gb0L100");
        faults(6, "C0Ga0L1", "C0Ga0L/", "C0Ga0L100");
        faults(7, "C0Ga0L01", "C0Ga0L0/", "C0Ga0L010");
        faults(8, "C0Ga0L001", "C0Ga0L00/");
        lastLetter("C0" + many("Ga0", 5) + "L44", "01234", "/56789:");
        // What is told behind it is not told ahead; without any gate ahead no LANE can be told.
        faults(6, "C0Ga0L1Gb0");
        faults(8, "C0Ga0L001Gb0");
        faults(2, "C0L", "C0L000", "C0L000Ga0");
        faults(5, "C0B10L");
        faults(NONE, "C0Ga0L000Gb0L111");
    }

    private static void faultOfBeasts() {
        says(4, "a BEAST of WEIGHT w (1 to 9), of KIND k: 0 COW, 1 CALF, 2 BULL, 3 PONY");
        faults(NONE, "C0B10", "C0B90");
        faults(3, "C0B00", "C0B:0", "C0B/0", "C0Ba0", "C0B-0", "C0B" + (char) 0, "C0B" + (char) 255);
        lastLetter("C0B1", "0123", "/4a");
    }

    private static void faultOfVerses() {
        says(4, "a VERSE of four TONES (a to l each, or - for a REST)");
        lastLetter("C0Vabc", "al-", "`m,.A0");
        for (int place = 0; place < 4; place++) {
            String ahead = "C0V" + many("-", place);
            String behind = many("a", 3 - place);
            faults(NONE, ahead + "a" + behind, ahead + "l" + behind, ahead + "-" + behind);
            faults(3 + place, ahead + "`" + behind, ahead + "m" + behind, ahead + "," + behind, ahead + "." + behind);
        }
        faults(7, "C0Vabcde", "C0Vabcd-");
    }

    private static void faultOfPlaces() {
        says(4, "the place of the first letter by which THE TEXT can be no FEN, whatever came behind it");
        faults(0, "X", "XX", "c0Ga0", "0C");
        faults(1, "CC0", "C9Ga9");
        faults(4, "C0Ga9Gm9", "C0Ga4L111");
        faults(3, "C0Gm0L000");
        says(4, "its length, if it is only not at its end");
        String parts = "C0" + "Ga0" + "L000" + "B10" + "V----" + "Gb1";
        String ends = " 2 5 9 12 17 20 ";
        for (int length = 0; length <= parts.length(); length++) {
            boolean whole = ends.contains(" " + length + " ");
            faults(whole ? NONE : length, parts.substring(0, length));
        }
        says(4, "(its length set aside)");
        faults(NONE, MOST);
        faults(54, MOST + "G", MOST + "L", MOST + "B", MOST + "V", MOST + "C", MOST + "Gxxxxx");
        faults(0, many("x", 60));
        faults(1, many("C", 60));
        says(4, "NONE: none.");
        faults(NONE, "C0", WIDE, SMALL);
    }

    // ---- promise 5

    private static void fenRefused() {
        says(5, "STATE: a FAULT.");
        choir().due(STATE, "fen()");
        for (String text : new String[] {"", "C", "C2", "x", "C0G", "C0Ga", "C0Ga4", "C0L", "C0Ga0L00", "C0V---", MOST + "G"}) {
            choir().text(text).due(STATE, "fen()");
        }
        for (String text : new String[] {"", "C1", "C1Gl3Gk2L010B12B13VaaaaV", "C1Gl3Gk2Gj1L012B12B13X"}) {
            Run run = fen(SMALL).does("drive(1, 0)", "open(0)", "keep(0)", "hear(1, 0, 3)", "seed(7)").text(text);
            if (text.equals("C1")) {
                run.does("write(120)");
            }
            run.due(STATE, "fen()").dueRow("beast(#, 0)", 2, 3).due(UNKNOWN, "beast(2, 0)").due(1, "again(0)");
        }
    }

    private static void fenMade() {
        says(5, "1000 times GATES, 100 times LANES, 10 times BEASTS, and VERSES");
        choir().text("C0").due(0, "fen()");
        choir().text("C1").due(0, "fen()");
        choir().text("C0Ga0").due(1000, "fen()");
        choir().text("C0Ga0L000").due(1100, "fen()");
        choir().text("C0B10").due(10, "fen()");
        choir().text("C0V----").due(1, "fen()");
        choir().text(MOST).due(5352, "fen()");
        says(5, "THE ROW of ACTS is empty, what was kept is gone; HEARD, THE SEED stay");
        Run run = fen(SMALL).does("drive(0, 0)", "open(1)", "oil(0)", "hang(0, false)", "frost()", "keep(0)", "keep(1)",
                "hear(0, 1, 12)", "seed(-5)");
        run.due(2121, "fen()").due(0, "count(8)").due(STATE, "undo()", "again(0)", "again(1)")
                .due(1, "count(9)").due(-5, "seed(9)").due(23, "count(0)");
        says(5, "Nothing is SUNG, no GATE was PASSED, is OPEN, OILED, no BEAST is HOME, when THE FEN is made anew.");
        run.dueRow("sung(#)", NONE, NONE, NONE, NONE).due(0, "count(6)", "count(7)")
                .dueRow("gate(0, #)", 0, 0, 0, 0, 0, 1).dueRow("gate(1, #)", 1, 1, 0, 0, 0, 1)
                .due(0, "beast(0, 2)", "count(5)");
        // The FROST is the one that is told, whatever there was.
        fen("C1").due(1, "count(5)").due(0, "frost()").due(0, "fen()").due(1, "count(5)").does("frost()", "frost()")
                .text("C0").due(0, "fen()").due(0, "count(5)");
        fen(WIDE).text("C0").due(0, "fen()").dueRow("count(#)", 2, 0, 0, 0, 0).noneIs(UNKNOWN, "gate(#, 0)");
    }

    // ---- promises 6 and 7

    private static void gate() {
        says(6, "UNKNOWN; OUTSIDE.");
        fen(WIDE).sides(UNKNOWN, "gate(#, 0)", 0, 4).sides(OUTSIDE, "gate(0, #)", 0, 5).sides(OUTSIDE, "gate(4, #)", 0, 5);
        fen(SMALL).sides(UNKNOWN, "gate(#, 5)", 0, 1);
        fen("C0Ga0").sides(UNKNOWN, "gate(#, 2)", 0, 0);
        choir().noneIs(UNKNOWN, "gate(#, 0)");
        says(6, "REFUSALS, of several the first that a call names");
        fen(WIDE).due(UNKNOWN, "gate(5, 6)", "gate(-1, -1)", "gate(MIN, MAX)", "gate(MAX, MIN)");
        choir().due(UNKNOWN, "gate(0, 6)");
        says(6, "Of a GATE its NOTE (what = 0), KIND (1)");
        fen("C0Ga0Gl1Gf2Gg3").dueRow("gate(#, 0)", 0, 11, 5, 6).dueRow("gate(#, 1)", 0, 1, 2, 3);
        says(6, "how often it was PASSED (2)");
        fen("C0Ga0Ga0L000L001B10B10").due(0, "gate(0, 2)").does("drive(0, 1)").dueRow("gate(#, 2)", 2, 1)
                .does("drive(1, 0)").dueRow("gate(#, 2)", 3, 1);
        says(6, "1 if it is OPEN (3), OILED (4)");
        fen("C0" + many("Ga0", 5)).does("open(4)", "oil(0)").dueRow("gate(4, #)", 0, 0, 0, 1, 0, 0)
                .dueRow("gate(0, #)", 0, 0, 0, 0, 1, 0).dueRow("gate(1, #)", 0, 0, 0, 0, 0, 0);
        says(6, "LANES in which it is (5: bits)");
        fen("C0Ga0Ga0Ga0Ga0L000L001L012").dueRow("gate(#, 5)", 7, 6, 4, 0);
        fen("C0Ga0").due(0, "gate(0, 5)");
    }

    private static void beast() {
        says(7, "UNKNOWN; OUTSIDE.");
        fen(WIDE).sides(UNKNOWN, "beast(#, 0)", 0, 4).sides(OUTSIDE, "beast(0, #)", 0, 2).sides(OUTSIDE, "beast(4, #)", 0, 2);
        fen(SMALL).sides(UNKNOWN, "beast(#, 2)", 0, 1);
        choir().noneIs(UNKNOWN, "beast(#, 0)");
        says(7, "REFUSALS, of several the first that a call names");
        fen(WIDE).due(UNKNOWN, "beast(5, 3)", "beast(-1, -1)", "beast(MIN, MAX)", "beast(MAX, MIN)");
        choir().due(UNKNOWN, "beast(0, 3)");
        says(7, "Of a BEAST its WEIGHT (what = 0), KIND (1), 1 if it is HOME (2).");
        fen("C0Ga0L000B10B91B52B43").dueRow("beast(#, 0)", 1, 9, 5, 4).dueRow("beast(#, 1)", 0, 1, 2, 3)
                .dueRow("beast(#, 2)", 0, 0, 0, 0).does("drive(3, 0)").dueRow("beast(#, 2)", 0, 0, 0, 1);
    }

    // ---- promise 8

    private static void toneByWeight() {
        says(8, "UNKNOWN: both.");
        fen(WIDE).sides(UNKNOWN, "tone(#, 0)", 0, 4).sides(UNKNOWN, "tone(0, #)", 0, 4)
                .due(UNKNOWN, "tone(5, 5)", "tone(-1, -1)", "tone(MIN, MAX)");
        fen(SMALL).sides(UNKNOWN, "tone(#, 1)", 0, 1).sides(UNKNOWN, "tone(1, #)", 0, 1);
        fen("C0Ga0").noneIs(UNKNOWN, "tone(0, #)");
        fen("C0B10").noneIs(UNKNOWN, "tone(#, 0)");
        says(8, "its NOTE and half of the WEIGHT (cut; PONY: a quarter of it, cut)");
        fen("C0Ga0B10B20B30B40B50").dueRow("tone(0, #)", 0, 1, 1, 2, 2);
        fen("C0Ga0B60B70B80B90").dueRow("tone(0, #)", 3, 3, 4, 4);
        fen("C0Ga0B13B23B33B43B53").dueRow("tone(0, #)", 0, 0, 0, 1, 1);
        fen("C0Ga0B63B73B83B93").dueRow("tone(0, #)", 1, 1, 2, 2);
        fen("C0Ga0B11B91").dueRow("tone(0, #)", 0, 4);
    }

    private static void toneByTwelve() {
        says(8, "of that what is left by 12 (0 to 11)");
        fen("C0Gk0Gl0B10B20B30B40").dueRow("tone(1, #)", 11, 0, 0, 1).dueRow("tone(0, #)", 10, 11, 11, 0);
        says(8, "4 more in FROST");
        fen("C1Ga0Gh0Gi0Gl0B10B90").dueRow("tone(#, 0)", 4, 11, 0, 3).dueRow("tone(#, 1)", 8, 3, 4, 7)
                .does("frost()").dueRow("tone(#, 1)", 4, 11, 0, 3);
        says(8, "BULL: 5 less");
        fen("C0Ga0Ge0Gf0Gl0B12B92").dueRow("tone(#, 0)", 7, 11, 0, 6).dueRow("tone(#, 1)", 11, 3, 4, 10);
        says(8, "DRY: as much less as it was PASSED");
        // Gate 2 is the same as gate 0, but for being PLAIN.
        fen("C0Ga2Gd2Ga0L012B10B12B10B10").dueRow("tone(#, 0)", 0, 3, 0).does("drive(0, 0)").dueRow("tone(#, 0)", 11, 2, 0)
                .does("drive(1, 0)").dueRow("tone(#, 0)", 10, 1, 0).does("drive(2, 0)").dueRow("tone(#, 0)", 9, 0, 0)
                .does("drive(3, 0)").dueRow("tone(#, 0)", 9, 0, 0).dueRow("tone(#, 1)", 4, 7, 7);
    }

    private static void toneOfRests() {
        says(8, "TONE; 12: a REST.");
        fen("C0Ga0B10").due(0, "tone(0, 0)").does("oil(0)").due(12, "tone(0, 0)");
        says(8, "It is a REST (12), if the GATE is OPEN, or OILED, or STIFF and the WEIGHT less than 5.");
        fen("C0Ga3Ga0Ga1Ga2B40B50B10B90").dueRow("tone(0, #)", 12, 2, 12, 4).dueRow("tone(#, 0)", 12, 2, 2, 2);
        fen("C0Ga3B41B51B42B52B43").dueRow("tone(0, #)", 12, 2, 12, 9, 12);
        fen("C0Ga3B53").due(1, "tone(0, 0)");
        fen("C0Ga0B90").does("open(0)").due(12, "tone(0, 0)").does("oil(0)").due(12, "tone(0, 0)").does("open(0)")
                .due(12, "tone(0, 0)").does("oil(0)").due(4, "tone(0, 0)");
    }

    // ---- promises 9 and 10

    private static void song() {
        says(9, "UNKNOWN: beast, lane; OUTSIDE: place.");
        fen(WIDE).sides(UNKNOWN, "song(#, 0, 0)", 0, 4).sides(UNKNOWN, "song(0, #, 0)", 0, 2).sides(OUTSIDE, "song(0, 0, #)", 0, 12);
        fen(SMALL).sides(UNKNOWN, "song(#, 0, 12)", 0, 1).sides(UNKNOWN, "song(0, #, 12)", 0, 0);
        fen("C0B10").noneIs(UNKNOWN, "song(0, #, 0)");
        fen("C0Ga0L000").noneIs(UNKNOWN, "song(#, 0, 0)");
        says(9, "REFUSALS, of several the first that a call names");
        fen(WIDE).due(UNKNOWN, "song(5, 0, 13)", "song(0, 3, -1)", "song(5, 3, 13)", "song(MIN, MAX, MIN)");
        says(9, "what is at a place (0 to 11; NONE: it is shorter); how long it is (place = 12)");
        fen("C0Ga0Gb0Gc0L012B10").dueRow("song(0, 0, #)", 0, 1, 2, NONE, NONE, NONE, NONE, NONE, NONE, NONE, NONE, NONE, 3);
        fen("C0Ga1Gb1Gc1L012B11").dueRow("song(0, 0, #)", 0, 1, 0, 1, 1, 2, 1, 2, 2, 3, 2, 3, 12);
        says(9, "of a CALF the TONE and the one that is 1 more (of 11: 0) behind it, unless it is a REST");
        fen("C0Gk0Gl0Ga3L012B11").dueRow("song(0, 0, #)", 10, 11, 11, 0, 12, NONE).due(5, "song(0, 0, 12)")
                .does("oil(0)", "open(1)").dueRow("song(0, 0, #)", 12, 12, 12, NONE).due(3, "song(0, 0, 12)");
        says(9, "at a SWINGING GATE all that twice");
        fen("C0Gl1Ga0L011L000B11B10").dueRow("song(0, 0, #)", 11, 0, 11, 0, 0, 1, 0, 1, NONE).due(8, "song(0, 0, 12)")
                .dueRow("song(1, 0, #)", 11, 11, 0, 0, NONE).due(12, "song(0, 1, 12)").due(6, "song(1, 1, 12)")
                .does("oil(0)").dueRow("song(0, 0, #)", 12, 12, 0, 1, 0, 1, NONE).due(6, "song(0, 1, 12)");
        says(9, "(PASSED is as ahead of it.)");
        fen("C0Gd2L000B10B10").dueRow("song(0, 0, #)", 3, 3, 3, NONE).does("drive(1, 0)").dueRow("song(0, 0, #)", 0, 0, 0, NONE);
    }

    private static void sung() {
        says(10, "OUTSIDE.");
        choir().sides(OUTSIDE, "sung(#)", 0, 11);
        fen(WIDE).does("drive(1, 1)", "drive(0, 0)").sides(OUTSIDE, "sung(#)", 0, 11);
        says(10, "What is SUNG at a place from the last one back (0: the last one, to 11; NONE: nothing).");
        fen("C0Ga0Gb0Gc0L012B10").due(NONE, "sung(0)", "sung(11)").does("drive(0, 0)")
                .dueRow("sung(#)", 2, 1, 0, NONE, NONE, NONE, NONE, NONE, NONE, NONE, NONE, NONE);
        says(10, "its SONG is SUNG behind what was (the last 12 are kept)");
        Run run = fen("C0Ga0Gb0Gc0L012L001B10B11B40B50B80").does("drive(0, 0)", "drive(1, 0)", "drive(2, 0)")
                .dueRow("sung(#)", 4, 3, 2, 3, 2, 2, 1, 1, 0, 2, 1, 0).due(12, "count(6)");
        run.does("drive(3, 1)").dueRow("sung(#)", 3, 2, 2, 4, 3, 2, 3, 2, 2, 1, 1, 0).due(12, "count(6)");
        fen("C0Ga1L000B11B10").does("drive(1, 0)", "drive(0, 0)").dueRow("sung(#)", 1, 0, 1, 0, 1, 0, 1, 0, 1, 0, 1, 0)
                .does("undo()").dueRow("sung(#)", 0, 0, 0, 0, 0, 0, NONE, NONE, NONE, NONE, NONE, NONE);
        says(10, "the last 12 are kept");
        fen("C0Ga0Gb0Gc0L012B10B40B80B93").does("drive(0, 0)", "drive(1, 0)", "drive(2, 0)").due(9, "count(6)")
                .due(NONE, "sung(9)").does("drive(3, 0)").due(12, "count(6)").due(0, "sung(11)");
    }
}

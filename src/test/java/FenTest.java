/** Promises 1 to 10: a new object, write, wipe, fault, fen, gate, beast, tone, song, sung. */
final class FenTest {
    public static void main(String[] args) {
        newObject();
        writeAndWipe();
        faults();
        fensMade();
        gates();
        beasts();
        tones();
        songs();
        sung();
        Check.end("FenTest");
    }

    private static void newObject() {
        GateChoir x = new GateChoir();
        for (int what = 0; what < 10; what++) {
            int w = what;
            Check.due("new: count(" + w + ")", 0, () -> x.count(w));
        }
        Check.due("new: seed", 0, () -> x.seed(0));
        Check.due("new: sung(0)", GateChoir.NONE, () -> x.sung(0));
        Check.due("new: undo", GateChoir.STATE, () -> x.undo());
        Check.due("new: again(0)", GateChoir.STATE, () -> x.again(0));
        Check.due("new: gate(0, 0)", GateChoir.UNKNOWN, () -> x.gate(0, 0));
    }

    private static void writeAndWipe() {
        GateChoir x = new GateChoir();
        for (int i = 0; i < 59; i++) {
            int letter = i;
            Check.due("write(" + i + ")", letter + 1, () -> x.write(letter));
        }
        Check.due("write(256)", GateChoir.OUTSIDE, () -> x.write(256));
        Check.due("write(-1)", GateChoir.OUTSIDE, () -> x.write(-1));
        Check.due("write(255)", 60, () -> x.write(255));
        Check.dueAndStill("write beyond 60", GateChoir.FULL, x, () -> x.write('C'));
        Check.dueAndStill("OUTSIDE is named ahead of FULL", GateChoir.OUTSIDE, x, () -> x.write(256));
        Check.due("wipe", 60, () -> x.wipe());
        Check.due("wipe again", 0, () -> x.wipe());
        Check.due("count(0)", 0, () -> x.count(0));
    }

    private static void faultOf(String text, int want) {
        GateChoir x = new GateChoir();
        Check.write(x, text);
        Check.dueAndStill("fault of '" + text + "'", want, x, () -> x.fault());
        if (want != GateChoir.NONE) {
            Check.dueAndStill("fen of '" + text + "'", GateChoir.STATE, x, () -> x.fen());
        }
    }

    private static void faults() {
        int none = GateChoir.NONE;
        faultOf("", 0);
        faultOf("c", 0);
        faultOf("C", 1);
        faultOf("C/", 1);
        faultOf("C2", 1);
        faultOf("C0", none);
        faultOf("C1", none);
        faultOf("C0X", 2);
        faultOf("C0g", 2);
        faultOf("C0C0", 2);
        faultOf("C0G", 3);
        faultOf("C0Ga", 4);
        faultOf("C0Ga0", none);
        faultOf("C0Gl3", none);
        faultOf("C0G`0", 3);
        faultOf("C0Gm0", 3);
        faultOf("C0G-0", 3);
        faultOf("C0Ga4", 4);
        faultOf("C0Ga/", 4);
        faultOf("C0L", 2);
        faultOf("C0Ga0L", 6);
        faultOf("C0Ga0L0", 7);
        faultOf("C0Ga0L00", 8);
        faultOf("C0Ga0L000", none);
        faultOf("C0Ga0L1", 6);
        faultOf("C0Ga0L001", 8);
        faultOf("C0Ga0L00/", 8);
        faultOf("C0Ga0L001Gb0", 8);
        faultOf("C0Ga0Gb0L010L101L111", none);
        faultOf("C0Ga0L000L000L000L", 17);
        faultOf("C0Ga0Ga0Ga0Ga0Ga0G", 17);
        faultOf("C0Ga0Ga0Ga0Ga0Ga0L444", none);
        faultOf("C0Ga0Ga0Ga0Ga0Ga0L445", 20);
        faultOf("C0B", 3);
        faultOf("C0B1", 4);
        faultOf("C0B10", none);
        faultOf("C0B93", none);
        faultOf("C0B0", 3);
        faultOf("C0B:", 3);
        faultOf("C0B14", 4);
        faultOf("C0B1/", 4);
        faultOf("C0B10B10B10B10B10B", 17);
        faultOf("C0V", 3);
        faultOf("C0Vabc", 6);
        faultOf("C0V-al-", none);
        faultOf("C0V-am", 5);
        faultOf("C0V-a`", 5);
        faultOf("C0V----V----V", 12);
        faultOf("C0Ga0 ", 5);
        // What comes behind the first fault is not looked at.
        faultOf("C0XGa0", 2);
        faultOf("C0Ga9Gm9", 4);
        // All that a fen can have is 54 letters: whatever part comes behind it is one too many.
        String all = "C0V----V----Ga0Ga0Ga0Ga0Ga0B10B10B10B10B10L000L000L000";
        faultOf(all, none);
        faultOf(all + "G", 54);
        faultOf(all + "L", 54);
        faultOf(all + "Babcde", 54);
        faultOf(all + "V", 54);
    }

    private static void fensMade() {
        GateChoir x = new GateChoir();
        Check.write(x, Check.WIDE);
        Check.due("fen of all", 5352, () -> x.fen());
        Check.due("the text stays", 54, () -> x.count(0));
        Check.due("fault", GateChoir.NONE, () -> x.fault());
        Check.due("the frost of C0", 0, () -> x.count(5));
        x.drive(0, 0);
        x.open(1);
        x.oil(0);
        x.hang(0, true);
        x.hear(1, 2, 3);
        x.seed(77);
        x.keep(0);
        x.keep(1);
        Check.write(x, "C1Ga0Gb1L010");
        Check.due("fen anew", 2100, () -> x.fen());
        Check.due("frost", 1, () -> x.count(5));
        Check.due("sung", 0, () -> x.count(6));
        Check.due("home", 0, () -> x.count(7));
        Check.due("acts", 0, () -> x.count(8));
        Check.due("undo", GateChoir.STATE, () -> x.undo());
        Check.due("heard stays", 1, () -> x.count(9));
        Check.due("what was kept is gone", GateChoir.STATE, () -> x.again(0));
        Check.due("in both slots", GateChoir.STATE, () -> x.again(1));
        Check.due("the seed stays", 77, () -> x.seed(0));
        Check.due("note", 0, () -> x.gate(0, 0));
        Check.due("passed", 0, () -> x.gate(0, 2));
        Check.due("open", 0, () -> x.gate(1, 3));
        Check.due("oiled", 0, () -> x.gate(0, 4));
        Check.due("no gate 2", GateChoir.UNKNOWN, () -> x.gate(2, 0));
        Check.due("no beast", GateChoir.UNKNOWN, () -> x.beast(0, 0));
        // A text with a fault leaves the fen as it is, whatever of it could be read.
        x.frost();
        x.open(0);
        Check.write(x, "C1Gl3Gk2B12X");
        Check.dueAndStill("fen with a fault", GateChoir.STATE, x, () -> x.fen());
        Check.due("the fen as it was", 1, () -> x.gate(0, 3));
        Check.due("acts as they were", 1, () -> x.undo());
        Check.write(x, "C0");
        Check.due("fen of nothing", 0, () -> x.fen());
        Check.due("no gates", 0, () -> x.count(1));
    }

    private static void gates() {
        GateChoir x = Check.choirOf(Check.WIDE);
        int[][] want = {{0, 0, 0, 0, 0, 3}, {2, 1, 0, 0, 0, 2}, {4, 2, 0, 0, 0, 1}, {5, 3, 0, 0, 0, 1}, {11, 0, 0, 0, 0, 4}};
        for (int i = 0; i < 5; i++) {
            for (int k = 0; k < 6; k++) {
                int gate = i;
                int what = k;
                Check.due("gate(" + gate + ", " + what + ")", want[gate][what], () -> x.gate(gate, what));
            }
        }
        Check.due("gate(5, 0)", GateChoir.UNKNOWN, () -> x.gate(5, 0));
        Check.due("gate(-1, 0)", GateChoir.UNKNOWN, () -> x.gate(-1, 0));
        Check.due("gate(0, 6)", GateChoir.OUTSIDE, () -> x.gate(0, 6));
        Check.due("gate(0, -1)", GateChoir.OUTSIDE, () -> x.gate(0, -1));
        Check.due("UNKNOWN is named first", GateChoir.UNKNOWN, () -> x.gate(5, 6));
        x.drive(2, 1);
        Check.due("passed twice", 2, () -> x.gate(1, 2));
        Check.due("passed once", 1, () -> x.gate(0, 2));
        x.open(3);
        x.oil(4);
        Check.due("open", 1, () -> x.gate(3, 3));
        Check.due("not oiled", 0, () -> x.gate(3, 4));
        Check.due("oiled", 1, () -> x.gate(4, 4));
        Check.due("not open", 0, () -> x.gate(4, 3));
    }

    private static void beasts() {
        GateChoir x = Check.choirOf(Check.WIDE);
        int[][] want = {{2, 0}, {4, 1}, {9, 2}, {8, 3}, {6, 0}};
        for (int i = 0; i < 5; i++) {
            int beast = i;
            Check.due("weight of " + i, want[i][0], () -> x.beast(beast, 0));
            Check.due("kind of " + i, want[i][1], () -> x.beast(beast, 1));
            Check.due("home of " + i, 0, () -> x.beast(beast, 2));
        }
        x.drive(3, 0);
        Check.due("home then", 1, () -> x.beast(3, 2));
        Check.due("beast(5, 0)", GateChoir.UNKNOWN, () -> x.beast(5, 0));
        Check.due("beast(-1, 9)", GateChoir.UNKNOWN, () -> x.beast(-1, 9));
        Check.due("beast(0, 3)", GateChoir.OUTSIDE, () -> x.beast(0, 3));
        Check.due("beast(0, -1)", GateChoir.OUTSIDE, () -> x.beast(0, -1));
    }

    private static void tones() {
        GateChoir x = Check.choirOf(Check.WIDE);
        int[][] want = {{1, 3, 5, 12, 0}, {2, 4, 6, 12, 1}, {11, 1, 3, 4, 10}, {2, 4, 6, 7, 1}, {3, 5, 7, 8, 2}};
        for (int i = 0; i < 5; i++) {
            for (int k = 0; k < 5; k++) {
                int beast = i;
                int gate = k;
                Check.due("tone(" + gate + ", " + beast + ")", want[beast][gate], () -> x.tone(gate, beast));
            }
        }
        x.frost();
        Check.due("in frost", 5, () -> x.tone(0, 0));
        Check.due("in frost a bull", 3, () -> x.tone(0, 2));
        Check.due("in frost beyond 11", 0, () -> x.tone(3, 4));
        x.frost();
        x.open(0);
        Check.due("open", 12, () -> x.tone(0, 0));
        x.open(0);
        x.oil(0);
        Check.due("oiled", 12, () -> x.tone(0, 4));
        x.oil(0);
        x.drive(4, 0);
        Check.due("dry, passed once", 4, () -> x.tone(2, 0));
        Check.due("plain, passed once", 1, () -> x.tone(0, 0));
        Check.due("stiff, passed once", 7, () -> x.tone(3, 3));
        Check.due("tone(5, 0)", GateChoir.UNKNOWN, () -> x.tone(5, 0));
        Check.due("tone(0, 5)", GateChoir.UNKNOWN, () -> x.tone(0, 5));
        Check.due("tone(-1, 0)", GateChoir.UNKNOWN, () -> x.tone(-1, 0));
        Check.due("tone(0, -1)", GateChoir.UNKNOWN, () -> x.tone(0, -1));
        // The edges of STIFF, of cut weights, and of what is left by 12 below 0.
        GateChoir y = Check.choirOf("C0Ga3Ga2L111B40B50B32B73B33");
        Check.due("stiff, 4", 12, () -> y.tone(0, 0));
        Check.due("stiff, 5", 2, () -> y.tone(0, 1));
        Check.due("bull of 3 at a", 8, () -> y.tone(1, 2));
        Check.due("pony of 7", 1, () -> y.tone(1, 3));
        Check.due("pony of 3", 0, () -> y.tone(1, 4));
        y.drive(0, 0);
        Check.due("dry, passed three times, bull", 5, () -> y.tone(1, 2));
        Check.due("dry, passed three times, pony", 9, () -> y.tone(1, 4));
    }

    private static void songs() {
        GateChoir x = Check.choirOf(Check.WIDE);
        String[][] want = {
            {"1 5 12", "3 3 3 3 1", "0 0 0"},
            {"2 3 6 7 12", "4 5 4 5 4 5 4 5 2 3", "1 2 1 2 1 2"},
            {"11 3 4", "1 1 1 1 11", "10 10 10"},
            {"2 6 7", "4 4 4 4 2", "1 1 1"},
            {"3 7 8", "5 5 5 5 3", "2 2 2"}};
        for (int beast = 0; beast < 5; beast++) {
            for (int lane = 0; lane < 3; lane++) {
                Check.same("song of " + beast + " in " + lane, Check.songOf(x, beast, lane), want[beast][lane]);
            }
        }
        Check.due("behind its end", GateChoir.NONE, () -> x.song(0, 0, 3));
        Check.due("place 11", GateChoir.NONE, () -> x.song(1, 1, 11));
        Check.due("place 9", 3, () -> x.song(1, 1, 9));
        Check.due("how long", 10, () -> x.song(1, 1, 12));
        Check.due("place 13", GateChoir.OUTSIDE, () -> x.song(1, 1, 13));
        Check.due("place -1", GateChoir.OUTSIDE, () -> x.song(1, 1, -1));
        Check.due("no beast", GateChoir.UNKNOWN, () -> x.song(5, 1, 13));
        Check.due("no lane", GateChoir.UNKNOWN, () -> x.song(1, 3, 13));
        Check.due("lane -1", GateChoir.UNKNOWN, () -> x.song(1, -1, 0));
        // A calf: 0 comes behind 11; a rest is told once, at a swinging gate twice.
        GateChoir y = Check.choirOf("C0Gl1Ga3Gk1L000L012L111B11B61");
        Check.same("calf at 11", Check.songOf(y, 0, 0), "11 0 11 0 11 0 11 0 11 0 11 0");
        Check.due("twelve long", 12, () -> y.song(0, 0, 12));
        Check.due("the twelfth", 0, () -> y.song(0, 0, 11));
        Check.same("calf at a stiff gate", Check.songOf(y, 0, 1), "11 0 11 0 12 10 11 10 11");
        y.oil(0);
        Check.same("calf at an oiled swinging gate", Check.songOf(y, 1, 1), "12 12 3 4 1 2 1 2");
    }

    private static void sung() {
        GateChoir x = Check.choirOf(Check.WIDE);
        Check.due("nothing yet", GateChoir.NONE, () -> x.sung(0));
        x.drive(0, 0);
        Check.same("one song", Check.sungOf(x), "1 5 12");
        Check.due("the last one", 12, () -> x.sung(0));
        Check.due("ahead of it", 5, () -> x.sung(1));
        Check.due("nothing there", GateChoir.NONE, () -> x.sung(3));
        x.drive(2, 1);
        Check.same("two songs", Check.sungOf(x), "1 5 12 1 1 1 1 11");
        x.drive(1, 1);
        Check.same("the last twelve", Check.sungOf(x), "1 11 4 5 4 5 4 5 4 5 2 3");
        Check.due("sung(11)", 1, () -> x.sung(11));
        Check.due("sung(12)", GateChoir.OUTSIDE, () -> x.sung(12));
        Check.due("sung(-1)", GateChoir.OUTSIDE, () -> x.sung(-1));
    }
}

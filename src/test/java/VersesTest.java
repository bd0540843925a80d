/** Promises 18 to 24: fit, harmony, best, fewest, has, silence, judge. */
final class VersesTest {
    public static void main(String[] args) {
        fits();
        harmonies();
        bests();
        fewest();
        having();
        silences();
        judged();
        Check.end("VersesTest");
    }

    private static void fits() {
        GateChoir x = Check.choirOf("C0Gb0Ge0L010L101B10B30Vbe-bVebeb");
        Check.dueAndStill("nothing is sung", 0, x, () -> x.fit(0));
        x.drive(0, 0);
        Check.same("sung", Check.sungOf(x), "1 4 1");
        // Three are at its end: 1 4 1 against e - b, and against b e b.
        Check.due("three are sung", 1, () -> x.fit(0));
        Check.due("three of four", 3, () -> x.fit(1));
        x.drive(1, 1);
        Check.same("sung", Check.sungOf(x), "1 4 1 5 2 5");
        Check.due("the last four: 1 5 2 5", 1, () -> x.fit(0));
        Check.due("none is like", 0, () -> x.fit(1));
        x.undo();
        x.turnOut(0);
        x.drive(0, 1);
        Check.same("sung", Check.sungOf(x), "1 4 1 4 1 4");
        x.turnOut(0);
        x.oil(1);
        x.drive(0, 0);
        Check.same("sung", Check.sungOf(x), "1 4 1 4 1 4 1 12 1");
        Check.due("a rest is like a rest", 2, () -> x.fit(0));
        Check.due("4 1 12 1", 3, () -> x.fit(1));
        x.turnOut(0);
        x.oil(1);
        x.drive(0, 1);
        x.turnOut(0);
        x.drive(0, 1);
        x.turnOut(0);
        x.hang(0, true);
        x.hang(0, false);
        x.drive(0, 0);
        Check.due("all four", 4, () -> x.fit(1));
        Check.due("fit(2)", GateChoir.UNKNOWN, () -> x.fit(2));
        Check.due("fit(-1)", GateChoir.UNKNOWN, () -> x.fit(-1));
    }

    private static void harmonies() {
        GateChoir x = Check.choirOf(Check.WIDE);
        Check.dueAndStill("10, 2 apart, a rest", 0, x, () -> x.harmony(0, 0, 2, 0));
        Check.due("9, 3, 3 apart", 3, () -> x.harmony(2, 0, 3, 0));
        Check.due("the shorter one", 1, () -> x.harmony(1, 1, 4, 2));
        Check.due("the same beast", 5, () -> x.harmony(0, 1, 0, 1));
        Check.due("both rests", 2, () -> x.harmony(0, 0, 0, 0));
        Check.due("no beast", GateChoir.UNKNOWN, () -> x.harmony(5, 0, 0, 0));
        Check.due("no lane", GateChoir.UNKNOWN, () -> x.harmony(0, 3, 0, 0));
        Check.due("no other", GateChoir.UNKNOWN, () -> x.harmony(0, 0, -1, 0));
        Check.due("no other lane", GateChoir.UNKNOWN, () -> x.harmony(0, 0, 0, -1));
        // Gate 0 stays a; gate 1 is hung higher, and so is as far apart as its note.
        GateChoir y = Check.choirOf("C0Ga0Ga0L000L111B10");
        int[] want = {3, 0, 0, 3, 3, 3, 0, 3, 3, 3, 0, 0};
        for (int i = 0; i < 12; i++) {
            Check.due(i + " apart", want[i], () -> y.harmony(0, 0, 0, 1));
            Check.due(i + " apart, the other way", want[i], () -> y.harmony(0, 1, 0, 0));
            y.hang(1, true);
        }
    }

    private static void bests() {
        GateChoir x = Check.choirOf(Check.WIDE);
        Check.dueAndStill("one, how much", 3, x, () -> x.best(1, 1, false));
        Check.dueAndStill("one, the row", 32, x, () -> x.best(1, 1, true));
        Check.dueAndStill("two, how much", 4, x, () -> x.best(1, 2, false));
        Check.dueAndStill("two, the row", 1243, x, () -> x.best(1, 2, true));
        Check.due("three, how much", 4, () -> x.best(1, 3, false));
        Check.due("n = 0", GateChoir.OUTSIDE, () -> x.best(0, 0, true));
        Check.due("n = 4", GateChoir.OUTSIDE, () -> x.best(0, 4, false));
        Check.due("no verse", GateChoir.UNKNOWN, () -> x.best(2, 4, false));
        Check.due("verse -1", GateChoir.UNKNOWN, () -> x.best(-1, 1, false));
        // Only beasts that are not home are driven.
        x.drive(0, 1);
        Check.due("with one home", 43, () -> x.best(1, 1, true));
        x.drive(1, 0);
        x.drive(2, 0);
        x.drive(3, 0);
        Check.due("too few", GateChoir.NONE, () -> x.best(1, 2, false));
        Check.due("too few, the row", GateChoir.NONE, () -> x.best(1, 2, true));
        x.drive(4, 0);
        Check.due("none is left", GateChoir.NONE, () -> x.best(1, 1, false));
        Check.due("none is left, the row", GateChoir.NONE, () -> x.best(1, 1, true));
        // Where nothing fits, 0 is the most, and the first row the least one.
        GateChoir y = Check.choirOf("C0Ga0L000L000B10B10B10Vllll");
        Check.due("nothing fits", 0, () -> y.best(0, 3, false));
        Check.due("the least row", 112131, () -> y.best(0, 3, true));
        GateChoir z = Check.choirOf("C0Ga0B10Vllll");
        Check.due("no lane", GateChoir.NONE, () -> z.best(0, 1, true));
        // A dry gate: what is driven ahead lowers what is sung behind it.
        GateChoir w = Check.choirOf("C0Gd2Ga0L000L110B10B20B30V-bbbVbbbb");
        Check.due("by the way there", 3, () -> w.best(0, 2, false));
        Check.due("its row", 1121, () -> w.best(0, 2, true));
    }

    private static void fewest() {
        GateChoir x = Check.choirOf(Check.WIDE);
        Check.dueAndStill("two", 2, x, () -> x.fewest(1));
        Check.due("no way", GateChoir.NONE, () -> x.fewest(0));
        x.drive(0, 1);
        Check.due("one", 1, () -> x.fewest(1));
        x.drive(3, 2);
        Check.due("it fits", 0, () -> x.fewest(1));
        Check.due("no verse", GateChoir.UNKNOWN, () -> x.fewest(2));
        Check.due("verse -1", GateChoir.UNKNOWN, () -> x.fewest(-1));
        // Two beasts pass the dry gate down to its lowest, the third sings there: 6 3 3 3.
        GateChoir y = Check.choirOf("C0Gg2Ga0L100L001B10B10B10Vgddd");
        Check.due("not by three", GateChoir.NONE, () -> y.fewest(0));
        GateChoir z = Check.choirOf("C0Gg2L000B10B10B10Vdddd");
        Check.due("three", 3, () -> z.fewest(0));
        z.drive(0, 0);
        z.drive(1, 0);
        Check.due("one is left", 1, () -> z.fewest(0));
    }

    private static void having() {
        GateChoir x = Check.choirOf(Check.WIDE);
        Check.dueAndStill("1 and 4 in lane 0", 0, x, () -> x.has(0, 0));
        Check.due("1 in lane 0", 1, () -> x.has(1, 0));
        Check.due("1 in lane 1", 5, () -> x.has(1, 1));
        Check.due("1 in lane 2", 10, () -> x.has(1, 2));
        Check.due("no verse", GateChoir.UNKNOWN, () -> x.has(2, 0));
        Check.due("no lane", GateChoir.UNKNOWN, () -> x.has(0, 3));
        Check.due("verse -1", GateChoir.UNKNOWN, () -> x.has(-1, 0));
        Check.due("lane -1", GateChoir.UNKNOWN, () -> x.has(0, -1));
        // In any order, also more often than they are sung; a rest is not wanted.
        GateChoir y = Check.choirOf("C0Ga0Gb0Gc0L012B10B11B20Vc-aaV----");
        Check.due("a and c", 3, () -> y.has(0, 0));
        Check.due("nothing but rests", 7, () -> y.has(1, 0));
        y.oil(2);
        Check.due("the calf sings c behind b", 2, () -> y.has(0, 0));
    }

    private static void silences() {
        GateChoir x = Check.choirOf(Check.WIDE);
        Check.dueAndStill("lane 0", 13, x, () -> x.silence(0));
        Check.due("lane 1", 3, () -> x.silence(1));
        Check.due("lane 2", 16, () -> x.silence(2));
        Check.due("no lane", GateChoir.UNKNOWN, () -> x.silence(3));
        Check.due("lane -1", GateChoir.UNKNOWN, () -> x.silence(-1));
        x.oil(0);
        Check.due("oiled already", 12, () -> x.silence(0));
        x.open(2);
        Check.due("open", 8, () -> x.silence(0));
        x.open(3);
        Check.due("silent", 0, () -> x.silence(0));
        GateChoir y = Check.choirOf("C0Ga3Ga0L010B40");
        Check.due("a stiff gate and a light beast", 2, () -> y.silence(0));
        GateChoir z = Check.choirOf("C0Ga3Ga0L010B40B50");
        Check.due("a stiff gate and a heavy beast", 3, () -> z.silence(0));
        GateChoir w = Check.choirOf("C0Ga0L000");
        Check.due("no beast", 0, () -> w.silence(0));
    }

    private static void judged() {
        int none = GateChoir.NONE;
        GateChoir x = Check.choirOf(Check.WIDE);
        Check.dueAndStill("driven", none, x, () -> x.judge(1, 0));
        Check.dueAndStill("driven twice", 1, x, () -> x.judge(2, 1));
        Check.due("turned out between", none, () -> x.judge(3, 17002));
        Check.due("turned out ahead", 0, () -> x.judge(1, 70));
        Check.due("turned out twice", 2, () -> x.judge(3, 7070));
        Check.due("no lane", 0, () -> x.judge(1, 3));
        Check.due("opened, oiled", none, () -> x.judge(2, 5464));
        Check.due("no gate to open", 0, () -> x.judge(2, 5564));
        Check.due("no gate to oil", 1, () -> x.judge(2, 5465));
        Check.due("no beast to turn out", 0, () -> x.judge(1, 75));
        Check.due("no verse", 0, () -> x.judge(1, 82));
        Check.due("9 is nothing", 0, () -> x.judge(1, 90));
        Check.due("the verse is sung", none, () -> x.judge(3, 13281));
        Check.due("three fit", none, () -> x.judge(2, 2181));
        Check.due("the verse is not sung", 1, () -> x.judge(2, 81));
        Check.due("opened and opened again", none, () -> x.judge(4, 54543281));
        Check.due("oiled and oiled again", none, () -> x.judge(4, 64643281));
        Check.due("opened: silent", 2, () -> x.judge(3, 543281));
        Check.due("oiled: silent", 2, () -> x.judge(3, 643281));
        Check.due("n = 0", GateChoir.OUTSIDE, () -> x.judge(0, 0));
        Check.due("n = 5", GateChoir.OUTSIDE, () -> x.judge(5, 0));
        Check.due("row below 0", GateChoir.OUTSIDE, () -> x.judge(1, -1));
        Check.due("three figures for one", GateChoir.OUTSIDE, () -> x.judge(1, 100));
        Check.due("two figures for one", 0, () -> x.judge(1, 99));
        Check.due("five figures for two", GateChoir.OUTSIDE, () -> x.judge(2, 10000));
        Check.due("four figures for two", 0, () -> x.judge(2, 9999));
        Check.due("seven figures for three", GateChoir.OUTSIDE, () -> x.judge(3, 1000000));
        Check.due("nine figures for four", GateChoir.OUTSIDE, () -> x.judge(4, 100000000));
        Check.due("eight figures for four", 0, () -> x.judge(4, 99999999));
        Check.due("the last of four", 3, () -> x.judge(4, 102090));
        Check.due("the greatest row", GateChoir.OUTSIDE, () -> x.judge(4, Integer.MAX_VALUE));
        Check.due("the least row", GateChoir.OUTSIDE, () -> x.judge(4, Integer.MIN_VALUE));
    }
}

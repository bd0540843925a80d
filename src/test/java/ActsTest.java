/** Promises 11 to 17: drive, open, oil, hang, turnOut, frost, undo. */
final class ActsTest {
    public static void main(String[] args) {
        drives();
        opened();
        oiled();
        hung();
        turnedOut();
        frosts();
        undone();
        Check.end("ActsTest");
    }

    private static void drives() {
        GateChoir x = Check.choirOf(Check.WIDE);
        Check.due("tones, the rest set aside", 2, () -> x.drive(0, 0));
        Check.due("home", 1, () -> x.count(7));
        Check.dueAndStill("home already", GateChoir.STATE, x, () -> x.drive(0, 1));
        Check.dueAndStill("no beast", GateChoir.UNKNOWN, x, () -> x.drive(5, 0));
        Check.dueAndStill("no lane", GateChoir.UNKNOWN, x, () -> x.drive(0, 3));
        Check.dueAndStill("beast -1", GateChoir.UNKNOWN, x, () -> x.drive(-1, 0));
        Check.dueAndStill("lane -1", GateChoir.UNKNOWN, x, () -> x.drive(1, -1));
        Check.due("a calf at a swinging gate", 10, () -> x.drive(1, 1));
        Check.due("home", 3, () -> x.count(7));
        Check.due("passed by both", 2, () -> x.gate(0, 2));
        Check.due("passed twice", 2, () -> x.gate(1, 2));
        Check.due("in the same lane", 5, () -> x.drive(2, 1));
        Check.due("passed 3 at most", 3, () -> x.gate(1, 2));
        Check.due("passed three times", 3, () -> x.gate(0, 2));
        Check.due("not passed", 0, () -> x.gate(4, 2));
        Check.due("acts", 3, () -> x.count(8));
        Check.due("a lane of one gate", 3, () -> x.drive(3, 2));
        Check.due("passed at once", 3, () -> x.gate(4, 2));
        // What a beast sings is by what was passed ahead of its drive.
        GateChoir y = Check.choirOf("C0Gd2L000B10B30");
        Check.due("a dry gate", 3, () -> y.drive(0, 0));
        Check.same("as ahead of it", Check.sungOf(y), "3 3 3");
        Check.due("once more", 3, () -> y.drive(1, 0));
        Check.same("lower then", Check.sungOf(y), "3 3 3 1 1 1");
    }

    private static void opened() {
        GateChoir x = Check.choirOf(Check.WIDE);
        Check.due("open(1)", 1, () -> x.open(1));
        Check.due("it is", 1, () -> x.gate(1, 3));
        Check.due("open(4)", 1, () -> x.open(4));
        Check.due("open(1) again", 0, () -> x.open(1));
        Check.due("it is not", 0, () -> x.gate(1, 3));
        Check.due("the other one is", 1, () -> x.gate(4, 3));
        Check.due("acts", 3, () -> x.count(8));
        Check.dueAndStill("open(5)", GateChoir.UNKNOWN, x, () -> x.open(5));
        Check.dueAndStill("open(-1)", GateChoir.UNKNOWN, x, () -> x.open(-1));
    }

    private static void oiled() {
        GateChoir x = Check.choirOf(Check.WIDE);
        Check.due("oil(0)", 1, () -> x.oil(0));
        Check.due("it is", 1, () -> x.gate(0, 4));
        Check.due("silent", 12, () -> x.tone(0, 0));
        Check.due("oil(0) again", 0, () -> x.oil(0));
        Check.due("it is not", 0, () -> x.gate(0, 4));
        Check.due("acts", 2, () -> x.count(8));
        Check.dueAndStill("oil(5)", GateChoir.UNKNOWN, x, () -> x.oil(5));
        Check.dueAndStill("oil(-1)", GateChoir.UNKNOWN, x, () -> x.oil(-1));
        // A gate that is open and oiled rests until it is neither.
        x.open(0);
        x.oil(0);
        x.open(0);
        Check.due("still oiled", 12, () -> x.tone(0, 0));
        x.oil(0);
        Check.due("neither", 1, () -> x.tone(0, 0));
    }

    private static void hung() {
        GateChoir x = Check.choirOf(Check.WIDE);
        Check.due("higher", 3, () -> x.hang(1, true));
        Check.due("lower", 2, () -> x.hang(1, false));
        Check.due("lower than 0", 11, () -> x.hang(0, false));
        Check.due("higher than 11", 0, () -> x.hang(4, true));
        Check.due("its tone", 0, () -> x.tone(0, 0));
        Check.due("the others stay", 4, () -> x.gate(2, 0));
        Check.due("acts", 4, () -> x.count(8));
        Check.dueAndStill("hang(5)", GateChoir.UNKNOWN, x, () -> x.hang(5, true));
        Check.dueAndStill("hang(-1)", GateChoir.UNKNOWN, x, () -> x.hang(-1, false));
    }

    private static void turnedOut() {
        GateChoir x = Check.choirOf(Check.WIDE);
        Check.dueAndStill("not home", GateChoir.STATE, x, () -> x.turnOut(0));
        x.drive(0, 0);
        x.drive(2, 0);
        x.drive(4, 0);
        Check.due("two are left", 2, () -> x.turnOut(2));
        Check.due("who", 17, () -> x.count(7));
        Check.dueAndStill("turned out already", GateChoir.STATE, x, () -> x.turnOut(2));
        Check.dueAndStill("turnOut(5)", GateChoir.UNKNOWN, x, () -> x.turnOut(5));
        Check.dueAndStill("turnOut(-1)", GateChoir.UNKNOWN, x, () -> x.turnOut(-1));
        Check.due("what is passed stays", 3, () -> x.gate(0, 2));
        Check.due("what is sung stays", 9, () -> x.count(6));
        Check.due("driven again", 3, () -> x.drive(2, 2));
        Check.due("acts", 5, () -> x.count(8));
    }

    private static void frosts() {
        GateChoir x = new GateChoir();
        Check.due("frost without a fen", 1, () -> x.frost());
        Check.due("there is some", 1, () -> x.count(5));
        Check.due("none any more", 0, () -> x.frost());
        Check.due("acts", 2, () -> x.count(8));
        GateChoir y = Check.choirOf("C1Ga0L000B10");
        Check.due("the fen's frost", 4, () -> y.tone(0, 0));
        Check.due("gone", 0, () -> y.frost());
        Check.due("no frost", 0, () -> y.tone(0, 0));
    }

    private static void undone() {
        GateChoir x = Check.choirOf(Check.WIDE);
        Check.dueAndStill("nothing to undo", GateChoir.STATE, x, () -> x.undo());
        x.drive(1, 1);
        x.drive(2, 1);
        Check.due("a third drive", 3, () -> x.drive(4, 0));
        Check.due("undo", 2, () -> x.undo());
        // What had gone from the last twelve is there again.
        Check.same("sung", Check.sungOf(x), "5 4 5 4 5 2 3 1 1 1 1 11");
        Check.due("undo", 1, () -> x.undo());
        Check.same("sung again", Check.sungOf(x), "4 5 4 5 4 5 4 5 2 3");
        Check.due("undo", 0, () -> x.undo());
        Check.due("undo", GateChoir.STATE, () -> x.undo());
        for (int act = 0; act < 6; act++) {
            undoneAs(act);
        }
        fourteen();
    }

    /** One act of each kind behind those ahead of it, on an object of its own. */
    private static void undoneAs(int last) {
        GateChoir x = Check.choirOf(Check.WIDE);
        x.drive(1, 1);
        x.drive(2, 1);
        Runnable[] acts = {
            () -> x.drive(4, 0), () -> x.open(2), () -> x.oil(3), () -> x.hang(0, false), () -> x.turnOut(1), () -> x.frost()};
        for (int i = 0; i < last; i++) {
            acts[i].run();
        }
        String before = Check.stateOf(x);
        acts[last].run();
        Check.isTrue("act " + last + " shows", !before.equals(Check.stateOf(x)));
        Check.due("undo act " + last, last + 2, () -> x.undo());
        Check.same("as ahead of act " + last, Check.stateOf(x), before);
        for (int i = last + 1; i >= 0; i--) {
            int left = i;
            Check.due("undo those ahead of it", left, () -> x.undo());
        }
        Check.due("nobody is home", 0, () -> x.count(7));
    }

    private static void fourteen() {
        GateChoir x = Check.choirOf("C0Ga0");
        for (int i = 0; i < 20; i++) {
            x.hang(0, true);
        }
        Check.due("14 at most", 14, () -> x.count(8));
        Check.due("note", 8, () -> x.gate(0, 0));
        for (int i = 13; i >= 7; i--) {
            int left = i;
            Check.due("undo", left, () -> x.undo());
        }
        Check.due("seven undone", 1, () -> x.gate(0, 0));
        x.frost();
        Check.due("one more", 8, () -> x.count(8));
        for (int i = 7; i >= 0; i--) {
            int left = i;
            Check.due("undo", left, () -> x.undo());
        }
        Check.due("the first ones are forgotten", GateChoir.STATE, () -> x.undo());
        Check.due("six can not be undone", 6, () -> x.gate(0, 0));
        Check.due("no frost", 0, () -> x.count(5));
    }
}

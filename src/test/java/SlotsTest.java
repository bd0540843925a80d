/** Promises 33 to 35: keep, again, count. */
final class SlotsTest {
    public static void main(String[] args) {
        keptAndAgain();
        counts();
        Check.end("SlotsTest");
    }

    private static String withoutActs(GateChoir x) {
        int acts = x.count(8);
        return Check.stateOf(x).replaceFirst("^((\\S+ ){8})" + acts + " ", "$1");
    }

    private static void keptAndAgain() {
        GateChoir x = Check.choirOf(Check.WIDE);
        for (int slot : new int[] {-1, 2}) {
            Check.dueAndStill("keep(" + slot + ")", GateChoir.UNKNOWN, x, () -> x.keep(slot));
            Check.dueAndStill("again(" + slot + ")", GateChoir.UNKNOWN, x, () -> x.again(slot));
        }
        Check.dueAndStill("none were kept", GateChoir.STATE, x, () -> x.again(0));
        x.drive(1, 1);
        x.drive(4, 0);
        x.open(1);
        x.oil(2);
        x.hang(3, false);
        x.frost();
        Check.dueAndStill("keep(0)", 2, x, () -> x.keep(0));
        Check.dueAndStill("the other slot", GateChoir.STATE, x, () -> x.again(1));
        String kept = withoutActs(x);
        x.drive(2, 2);
        x.open(1);
        x.open(0);
        x.oil(2);
        x.hang(3, true);
        x.frost();
        Check.due("keep(1)", 3, () -> x.keep(1));
        String other = withoutActs(x);
        x.turnOut(1);
        Check.due("again(0)", 2, () -> x.again(0));
        Check.same("as it was kept", withoutActs(x), kept);
        Check.due("no acts", 0, () -> x.count(8));
        Check.due("nothing to undo", GateChoir.STATE, () -> x.undo());
        x.frost();
        Check.due("again(1)", 3, () -> x.again(1));
        Check.same("as the other was kept", withoutActs(x), other);
        Check.due("again(0) once more", 2, () -> x.again(0));
        Check.same("as it was kept still", withoutActs(x), kept);
        x.turnOut(4);
        Check.due("kept over", 1, () -> x.keep(0));
        x.drive(4, 0);
        Check.due("the later one", 1, () -> x.again(0));
        // What is heard, and the seed, are not kept.
        x.hear(0, 0, 0);
        x.seed(9);
        x.again(0);
        Check.due("heard", 1, () -> x.count(9));
        Check.due("the seed", 9, () -> x.seed(0));
    }

    private static void counts() {
        GateChoir x = Check.choirOf("C1Ga0Gb0L001L110L010B10B21B30B40V----");
        int[] want = {37, 2, 3, 4, 1, 1, 0, 0, 0, 0};
        for (int i = 0; i < 10; i++) {
            int what = i;
            Check.dueAndStill("count(" + i + ")", want[i], x, () -> x.count(what));
        }
        x.drive(1, 0);
        x.drive(3, 0);
        x.hear(0, 0, 0);
        x.hear(0, 0, 0);
        x.frost();
        x.write('X');
        int[] then = {38, 2, 3, 4, 1, 0, 9, 10, 3, 2};
        for (int i = 0; i < 10; i++) {
            int what = i;
            Check.due("count(" + i + ") then", then[i], () -> x.count(what));
        }
        x.drive(0, 0);
        x.drive(2, 0);
        Check.due("12 at most", 12, () -> x.count(6));
        Check.due("count(10)", GateChoir.OUTSIDE, () -> x.count(10));
        Check.due("count(-1)", GateChoir.OUTSIDE, () -> x.count(-1));
    }
}

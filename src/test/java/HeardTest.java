/** Promises 25 to 27: hear, unhear, weights. */
final class HeardTest {
    public static void main(String[] args) {
        hearing();
        weights();
        Check.end("HeardTest");
    }

    private static void hearing() {
        GateChoir x = Check.choirOf(Check.WIDE);
        Check.due("unhear nothing", 0, () -> x.unhear());
        Check.dueAndStill("no gate", GateChoir.UNKNOWN, x, () -> x.hear(4, 5, 13));
        Check.dueAndStill("gate -1", GateChoir.UNKNOWN, x, () -> x.hear(0, -1, 0));
        Check.dueAndStill("kind 4", GateChoir.OUTSIDE, x, () -> x.hear(4, 0, 0));
        Check.dueAndStill("kind -1", GateChoir.OUTSIDE, x, () -> x.hear(-1, 0, 0));
        Check.dueAndStill("tone 13", GateChoir.OUTSIDE, x, () -> x.hear(0, 0, 13));
        Check.dueAndStill("tone -1", GateChoir.OUTSIDE, x, () -> x.hear(0, 0, -1));
        for (int i = 1; i <= 6; i++) {
            int many = i;
            Check.due("heard " + i, many, () -> x.hear(3, 4, 12));
        }
        Check.dueAndStill("a seventh", GateChoir.FULL, x, () -> x.hear(3, 4, 12));
        Check.dueAndStill("OUTSIDE ahead of FULL", GateChoir.OUTSIDE, x, () -> x.hear(3, 4, 13));
        Check.dueAndStill("UNKNOWN ahead of FULL", GateChoir.UNKNOWN, x, () -> x.hear(3, 5, 12));
        Check.due("count(9)", 6, () -> x.count(9));
        Check.due("no act", 0, () -> x.count(8));
        Check.due("unhear", 6, () -> x.unhear());
        Check.due("count(9) then", 0, () -> x.count(9));
        Check.due("all weights again", 1022, () -> x.weights(3));
    }

    private static void weights() {
        GateChoir x = Check.choirOf(Check.WIDE);
        Check.dueAndStill("nothing heard", 1022, x, () -> x.weights(0));
        Check.due("kind 4", GateChoir.OUTSIDE, () -> x.weights(4));
        Check.due("kind -1", GateChoir.OUTSIDE, () -> x.weights(-1));
        x.hear(0, 0, 2);
        Check.due("a cow: 4 or 5", 1 << 4 | 1 << 5, () -> x.weights(0));
        Check.due("no calf was heard", 1022, () -> x.weights(1));
        x.hear(0, 3, 7);
        Check.due("a stiff gate sang: 5", 1 << 5, () -> x.weights(0));
        x.hear(0, 3, 12);
        Check.due("it can not be", 0, () -> x.weights(0));
        x.unhear();
        x.hear(3, 0, 1);
        Check.due("a pony: 4 to 7", 0xF0, () -> x.weights(3));
        x.hear(2, 0, 7);
        Check.due("a bull: 1", 1 << 1, () -> x.weights(2));
        x.hear(1, 3, 12);
        Check.due("a calf: less than 5", 0x1E, () -> x.weights(1));
        // The gate is looked at as it is now.
        x.hang(0, true);
        Check.due("a pony: 1 to 3", 0xE, () -> x.weights(3));
        x.undo();
        x.frost();
        Check.due("in frost no pony", 0, () -> x.weights(3));
        x.undo();
        x.oil(0);
        Check.due("oiled: none", 0, () -> x.weights(3));
        x.undo();
        // Gates that there are not any more are not looked at; those that there are again are.
        x.unhear();
        x.hear(0, 4, 12);
        x.hear(0, 0, 1);
        Check.due("two heard", 0, () -> x.weights(0));
        Check.write(x, "C0Ga0");
        x.fen();
        Check.due("heard stays", 2, () -> x.count(9));
        Check.due("gate 0 alone", 1 << 2 | 1 << 3, () -> x.weights(0));
        Check.write(x, "C0");
        x.fen();
        Check.due("no gate", 1022, () -> x.weights(0));
        Check.write(x, "C0Gb0");
        x.fen();
        Check.due("another gate 0", 1 << 1, () -> x.weights(0));
    }
}

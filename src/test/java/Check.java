import java.util.function.LongSupplier;

/** What the tests share: fens by their text, answers that are due, and an exit code. */
final class Check {
    /** Gates of every kind, three lanes, beasts of every kind, two verses. */
    static final String WIDE = "C0Ga0Gc1Ge2Gf3Gl0L023L110L444B20B41B92B83B60Vbe-bVbbbb";

    private static int asked = 0;
    private static int wrong = 0;

    private Check() {
    }

    static void due(String what, long want, LongSupplier call) {
        asked++;
        try {
            long got = call.getAsLong();
            if (got != want) {
                wrong++;
                System.out.println(what + " answered " + got + ", due is " + want);
            }
        } catch (RuntimeException thrown) {
            wrong++;
            System.out.println(what + " threw " + thrown + ", due is " + want);
        }
    }

    static void isTrue(String what, boolean so) {
        due(what, 1, () -> so ? 1 : 0);
    }

    static void write(GateChoir choir, String text) {
        choir.wipe();
        for (int i = 0; i < text.length(); i++) {
            choir.write(text.charAt(i));
        }
    }

    static GateChoir choirOf(String text) {
        GateChoir choir = new GateChoir();
        write(choir, text);
        int answer = choir.fen();
        isTrue("fen of " + text + " (" + answer + ") is one", answer >= 0);
        return choir;
    }

    /** All that acts change, and what is counted; few calls, as one object is for no more than 512. */
    static String stateOf(GateChoir choir) {
        StringBuilder state = new StringBuilder();
        for (int what = 0; what < 10; what++) {
            state.append(choir.count(what)).append(' ');
        }
        for (int gate = 0; gate < choir.count(1); gate++) {
            for (int what : new int[] {0, 2, 3, 4}) {
                state.append(choir.gate(gate, what)).append(' ');
            }
        }
        for (int place = 0; place < 12; place++) {
            state.append(choir.sung(place)).append(' ');
        }
        long seed = choir.seed(0);
        choir.seed(seed);
        return state.append(seed).toString();
    }

    /** What hardly any change would leave as it is; the edges' tests look at every later answer. */
    private static String countsOf(GateChoir choir) {
        StringBuilder counts = new StringBuilder();
        for (int what : new int[] {0, 1, 5, 6, 7, 8, 9}) {
            counts.append(choir.count(what)).append(' ');
        }
        return counts.append(choir.sung(0)).toString();
    }

    /** The call answers that, and nothing that is counted is changed by it. */
    static void dueAndStill(String what, long want, GateChoir choir, LongSupplier call) {
        String before = countsOf(choir);
        due(what, want, call);
        isTrue(what + " changes nothing", before.equals(countsOf(choir)));
    }

    static String songOf(GateChoir choir, int beast, int lane) {
        StringBuilder song = new StringBuilder();
        for (int place = 0; place < choir.song(beast, lane, 12); place++) {
            song.append(place == 0 ? "" : " ").append(choir.song(beast, lane, place));
        }
        return song.toString();
    }

    static String sungOf(GateChoir choir) {
        StringBuilder sung = new StringBuilder();
        for (int place = choir.count(6) - 1; place >= 0; place--) {
            sung.append(sung.length() == 0 ? "" : " ").append(choir.sung(place));
        }
        return sung.toString();
    }

    static void same(String what, String got, String want) {
        isTrue(what + ": got '" + got + "', due is '" + want + "'", got.equals(want));
    }

    static void end(String name) {
        System.out.println(name + ": " + asked + " asked, " + wrong + " wrong");
        if (wrong != 0 || asked == 0) {
            System.exit(1);
        }
    }
}

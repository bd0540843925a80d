import java.util.HashSet;
import java.util.Set;
import java.util.TreeSet;

/** What the tests of boundary cases share: each names a promise and the sentence of the document that it is about. */
abstract class Edges {
    static final int UNKNOWN = GateChoir.UNKNOWN;
    static final int OUTSIDE = GateChoir.OUTSIDE;
    static final int STATE = GateChoir.STATE;
    static final int FULL = GateChoir.FULL;
    static final int NONE = GateChoir.NONE;

    static final String WIDE = Check.WIDE;

    /** Two gates, one lane, two beasts, one verse: what there is ends ahead of how much there may be. */
    static final String SMALL = "C0Ga0Gb1L010B20B31Vab-c";

    private static final Set<Integer> PROMISES_NAMED = new TreeSet<>();
    private static final Set<String> ANSWERS = new HashSet<>();
    private static String about = "";

    static void says(int promise, String sentence) {
        about = "promise " + promise + ", '" + sentence + "'";
        PROMISES_NAMED.add(promise);
        Check.isTrue(about + " stands in the document", Document.says(promise, sentence));
    }

    /** A new object. */
    static Run choir() {
        return new Run(about);
    }

    /** A new object whose fen is that text. */
    static Run fen(String text) {
        return choir().fen(text);
    }

    static void answered(String method, long answer) {
        ANSWERS.add(method + " " + answer);
    }

    /** Every promise from the first to the last is named, and every refusal of its section was answered once. */
    static void end(String name, int first, int last) {
        for (int promise = first; promise <= last; promise++) {
            Check.isTrue("promise " + promise + " is named", PROMISES_NAMED.contains(promise));
            refusalsOf(promise);
        }
        Check.end(name);
    }

    static void end(String name) {
        Check.end(name);
    }

    private static void refusalsOf(int promise) {
        String[] words = {"UNKNOWN", "OUTSIDE", "STATE", "FULL", "NONE"};
        int[] answers = {UNKNOWN, OUTSIDE, STATE, FULL, NONE};
        String section = Document.promise(promise);
        String method = Document.methodOf(promise);
        for (int i = 0; i < words.length; i++) {
            boolean named = section.matches(".*\\b" + words[i] + "\\b.*");
            Check.isTrue(method + " answers " + words[i] + " once, if its promise names it",
                    !named || ANSWERS.contains(method + " " + answers[i]));
        }
    }
}

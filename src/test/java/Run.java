import java.lang.reflect.InvocationTargetException;
import java.lang.reflect.Method;
import java.util.ArrayList;
import java.util.HashMap;
import java.util.List;
import java.util.Map;
import java.util.Set;

/**
 * A run of told calls on one choir, as "drive(0, 1)". After each call that is refused, or that only asks, a twin
 * that was not called so is asked everything that there is: every later answer has to be the same.
 */
final class Run {
    /** Beyond this the document promises nothing, so no test may go on from there. */
    private static final int MOST_CALLS = 512;

    private static final Set<String> ONLY_ASK = Set.of(
            "fault", "gate", "beast", "tone", "song", "sung", "fit", "harmony", "best", "fewest", "has", "silence",
            "judge", "weights", "share", "rests", "drips", "count");

    private static final Map<String, Method> METHODS = methods();
    private static final List<Call> LATER = laterCalls();

    private static final class Call {
        final String told;
        final Method method;
        final Object[] arguments;

        Call(String told) {
            this.told = told;
            int open = told.indexOf('(');
            method = METHODS.get(told.substring(0, open));
            if (method == null) {
                throw new IllegalArgumentException("no method for " + told);
            }
            String inside = told.substring(open + 1, told.length() - 1);
            String[] words = inside.isEmpty() ? new String[0] : inside.split(", ");
            Class<?>[] types = method.getParameterTypes();
            if (words.length != types.length) {
                throw new IllegalArgumentException("wrong arguments in " + told);
            }
            arguments = new Object[words.length];
            for (int i = 0; i < words.length; i++) {
                arguments[i] = argument(types[i], words[i]);
            }
        }

        private static Object argument(Class<?> type, String word) {
            if (type == boolean.class) {
                return Boolean.valueOf(word);
            }
            if (type == long.class) {
                return Long.valueOf(word);
            }
            switch (word) {
                case "MIN": return Integer.MIN_VALUE;
                case "MAX": return Integer.MAX_VALUE;
                default: return Integer.valueOf(word);
            }
        }

        long on(GateChoir choir) {
            try {
                return ((Number) method.invoke(choir, arguments)).longValue();
            } catch (InvocationTargetException thrown) {
                throw new IllegalStateException(told + " threw " + thrown.getCause());
            } catch (IllegalAccessException hidden) {
                throw new IllegalStateException(hidden);
            }
        }

        boolean onlyAsks() {
            return ONLY_ASK.contains(method.getName());
        }

        boolean canBeRefused() {
            return !method.getName().equals("seed");
        }
    }

    private final String about;
    private final GateChoir choir = new GateChoir();
    private final List<Call> changing = new ArrayList<>();
    private int calls = 0;
    // What the twin answers, until a call changes something.
    private long[] twinAnswers;

    Run(String about) {
        this.about = about;
    }

    /** Calls whose answers are looked at elsewhere. */
    Run does(String... told) {
        for (String each : told) {
            Call call = new Call(each);
            once(call);
            remember(call);
        }
        return this;
    }

    /** The letters, each written behind THE TEXT. */
    Run writes(String letters) {
        for (int i = 0; i < letters.length(); i++) {
            does("write(" + (int) letters.charAt(i) + ")");
        }
        return this;
    }

    Run text(String letters) {
        return does("wipe()").writes(letters);
    }

    Run fen(String letters) {
        return text(letters).does("fen()");
    }

    /** Each of the calls, one behind the other, has this answer. */
    Run due(long want, String... told) {
        for (String each : told) {
            Call call = new Call(each);
            Edges.answered(call.method.getName(), want);
            long[] got = new long[1];
            Check.due(about + ": " + each, want, () -> got[0] = once(call));
            if (call.onlyAsks() || call.canBeRefused() && isRefusal(got[0])) {
                changesNothing(call);
            } else {
                remember(call);
            }
        }
        return this;
    }

    /** Calls that are not refused, and change nothing all the same; their answers are looked at elsewhere. */
    Run still(String... told) {
        for (String each : told) {
            Call call = new Call(each);
            Check.due(about + ": " + each + " is taken", 1, () -> isRefusal(once(call)) ? 0 : 1);
            changesNothing(call);
        }
        return this;
    }

    /** For # of 0, 1, 2 and on, a call has these answers. */
    Run dueRow(String pattern, long... wants) {
        for (int i = 0; i < wants.length; i++) {
            due(wants[i], with(pattern, String.valueOf(i)));
        }
        return this;
    }

    /** Both last values for # that are taken, the first that are not, and the least and the greatest int. */
    Run sides(long refusal, String pattern, int least, int greatest) {
        takes(with(pattern, String.valueOf(least)));
        takes(with(pattern, String.valueOf(greatest)));
        due(refusal, with(pattern, String.valueOf(least - 1)), with(pattern, String.valueOf(greatest + 1)));
        return due(refusal, with(pattern, "MIN"), with(pattern, "MAX"));
    }

    /** Where there is nothing that # could be. */
    Run noneIs(long refusal, String pattern) {
        return due(refusal, with(pattern, "0"), with(pattern, "-1"), with(pattern, "MIN"), with(pattern, "MAX"));
    }

    /** Behind these calls and behind those ("; " between them) every later answer is the same. */
    Run alike(String these, String those) {
        long[] wants = laterAnswers(replayedAnd(those));
        compare(these + " as " + (those.isEmpty() ? "nothing" : those), laterAnswers(replayedAnd(these)), wants);
        return this;
    }

    private GateChoir replayedAnd(String more) {
        GateChoir other = replayed();
        for (String told : more.isEmpty() ? new String[0] : more.split("; ")) {
            new Call(told).on(other);
        }
        return other;
    }

    private static String with(String pattern, String value) {
        return pattern.replace("#", value);
    }

    /** Tried on another choir, so that this one stays as it is. */
    private void takes(String told) {
        Call call = new Call(told);
        GateChoir other = replayed();
        Check.due(about + ": " + told + " is taken", 1, () -> isRefusal(call.on(other)) ? 0 : 1);
    }

    private static boolean isRefusal(long answer) {
        return answer <= GateChoir.UNKNOWN && answer >= GateChoir.FULL;
    }

    private long once(Call call) {
        calls++;
        if (calls > MOST_CALLS) {
            throw new IllegalStateException(about + ": too many calls of one object");
        }
        return call.on(choir);
    }

    private void remember(Call call) {
        changing.add(call);
        twinAnswers = null;
    }

    private GateChoir replayed() {
        GateChoir other = new GateChoir();
        for (Call call : changing) {
            call.on(other);
        }
        return other;
    }

    private void changesNothing(Call call) {
        if (twinAnswers == null) {
            twinAnswers = laterAnswers(replayed());
        }
        compare(call.told, laterAnswers(replayedAnd(call.told)), twinAnswers);
    }

    private void compare(String behind, long[] answers, long[] wants) {
        for (int i = 0; i < answers.length; i++) {
            long got = answers[i];
            if (got != wants[i]) {
                Check.due(about + ": behind " + behind + " later " + LATER.get(i).told, wants[i], () -> got);
                return;
            }
        }
        Check.isTrue(about + ": behind " + behind, answers.length > 0);
    }

    private long[] laterAnswers(GateChoir of) {
        if (changing.size() + 1 + LATER.size() > MOST_CALLS) {
            throw new IllegalStateException(about + ": too many calls ahead of those that look");
        }
        long[] answers = new long[LATER.size()];
        for (int i = 0; i < answers.length; i++) {
            answers[i] = LATER.get(i).on(of);
        }
        return answers;
    }

    private static Map<String, Method> methods() {
        Map<String, Method> all = new HashMap<>();
        for (Method method : GateChoir.class.getDeclaredMethods()) {
            all.put(method.getName(), method);
        }
        return all;
    }

    // ---- the calls by which all that a choir holds is seen

    private static void add(List<Call> all, String pattern, int many) {
        for (int i = 0; i < many; i++) {
            all.add(new Call(with(pattern, String.valueOf(i))));
        }
    }

    private static List<Call> laterCalls() {
        List<Call> all = new ArrayList<>();
        addAsking(all);
        addUndoing(all);
        add(all, "again(0)", 1);
        addMoment(all);
        add(all, "again(1)", 1);
        addMoment(all);
        add(all, "hear(0, 0, 0)", 1);
        add(all, "unhear()", 1);
        // The letters show only by the fen that they make.
        add(all, "fen()", 1);
        add(all, "gate(#, 0)", 5);
        add(all, "gate(#, 1)", 5);
        add(all, "gate(#, 5)", 5);
        add(all, "beast(#, 0)", 5);
        add(all, "beast(#, 1)", 5);
        add(all, "count(5)", 1);
        add(all, "write(67)", 1);
        add(all, "fault()", 1);
        add(all, "wipe()", 1);
        return all;
    }

    private static void addMoment(List<Call> all) {
        for (int gate = 0; gate < 5; gate++) {
            add(all, "gate(" + gate + ", 0)", 1);
            add(all, "gate(" + gate + ", 2)", 1);
            add(all, "gate(" + gate + ", 3)", 1);
            add(all, "gate(" + gate + ", 4)", 1);
        }
        add(all, "count(5)", 1);
        add(all, "count(7)", 1);
        add(all, "sung(#)", 12);
    }

    private static void addAsking(List<Call> all) {
        add(all, "count(#)", 10);
        add(all, "fault()", 1);
        for (int gate = 0; gate < 5; gate++) {
            add(all, "gate(" + gate + ", #)", 6);
            add(all, "tone(" + gate + ", #)", 5);
        }
        for (int beast = 0; beast < 5; beast++) {
            add(all, "beast(" + beast + ", #)", 3);
            add(all, "song(" + beast + ", #, 12)", 3);
        }
        add(all, "sung(#)", 12);
        add(all, "weights(#)", 4);
        for (int verse = 0; verse < 2; verse++) {
            add(all, "fit(" + verse + ")", 1);
            add(all, "best(" + verse + ", 2, true)", 1);
            add(all, "has(" + verse + ", #)", 3);
        }
        add(all, "fewest(0)", 1);
        add(all, "silence(#)", 3);
        add(all, "share(0, #, true)", 3);
        add(all, "rests(0, 1, 0)", 1);
        add(all, "drips(0, 0, 1, 3, true)", 1);
        add(all, "winters(30)", 1);
        add(all, "seed(0)", 1);
    }

    private static void addUndoing(List<Call> all) {
        for (int i = 0; i < 15; i++) {
            add(all, "undo()", 1);
            add(all, "gate(#, 0)", 2);
            add(all, "count(5)", 1);
            add(all, "count(7)", 1);
            add(all, "sung(0)", 1);
        }
        addMoment(all);
    }
}

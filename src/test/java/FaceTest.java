import java.io.IOException;
import java.lang.reflect.Constructor;
import java.lang.reflect.Field;
import java.lang.reflect.Method;
import java.lang.reflect.Modifier;
import java.nio.file.Files;
import java.nio.file.Path;
import java.util.HashSet;
import java.util.Set;
import java.util.TreeSet;
import java.util.regex.Matcher;
import java.util.regex.Pattern;

/** The public face of the document, and those rules of LANGUAGE.md that can be looked up. */
final class FaceTest {
    private static final String[] FACE = {
        "int write(int)", "int wipe()", "int fault()", "int fen()", "int gate(int,int)", "int beast(int,int)",
        "int tone(int,int)", "int song(int,int,int)", "int sung(int)", "int drive(int,int)", "int open(int)",
        "int oil(int)", "int hang(int,boolean)", "int turnOut(int)", "int frost()", "int undo()", "int fit(int)",
        "int harmony(int,int,int,int)", "int best(int,int,boolean)", "int fewest(int)", "int has(int,int)",
        "int silence(int)", "int judge(int,int)", "int hear(int,int,int)", "int unhear()", "int weights(int)",
        "int share(int,int,boolean)", "int rests(int,int,int)", "int drips(int,int,int,int,boolean)",
        "long seed(long)", "int winters(int)", "int keep(int)", "int again(int)", "int count(int)"};

    public static void main(String[] args) throws IOException {
        constants();
        members();
        nested();
        words();
        Check.end("FaceTest");
    }

    private static void constants() {
        Check.due("UNKNOWN", -1, () -> GateChoir.UNKNOWN);
        Check.due("OUTSIDE", -2, () -> GateChoir.OUTSIDE);
        Check.due("STATE", -3, () -> GateChoir.STATE);
        Check.due("FULL", -4, () -> GateChoir.FULL);
        Check.due("NONE", -9, () -> GateChoir.NONE);
        Set<String> open = new TreeSet<>();
        for (Field field : GateChoir.class.getDeclaredFields()) {
            if (!Modifier.isPrivate(field.getModifiers())) {
                open.add(Modifier.toString(field.getModifiers()) + " " + field.getType() + " " + field.getName());
            }
        }
        String kind = "public static final int ";
        Set<String> want = new TreeSet<>(Set.of(
                kind + "UNKNOWN", kind + "OUTSIDE", kind + "STATE", kind + "FULL", kind + "NONE"));
        Check.same("fields", open.toString(), want.toString());
    }

    private static String faceOf(Method method) {
        StringBuilder face = new StringBuilder();
        face.append(method.getReturnType()).append(' ').append(method.getName()).append('(');
        for (int i = 0; i < method.getParameterCount(); i++) {
            face.append(i == 0 ? "" : ",").append(method.getParameterTypes()[i]);
        }
        return face.append(')').toString();
    }

    private static void members() {
        int modifiers = GateChoir.class.getModifiers();
        Check.isTrue("public and final", Modifier.isPublic(modifiers) && Modifier.isFinal(modifiers));
        Set<String> open = new TreeSet<>();
        Set<String> names = new HashSet<>();
        for (Method method : GateChoir.class.getDeclaredMethods()) {
            if (!Modifier.isPrivate(method.getModifiers())) {
                open.add(faceOf(method));
                names.add(method.getName());
                Check.isTrue(method + " is public", Modifier.isPublic(method.getModifiers()));
            }
        }
        Check.same("methods", open.toString(), new TreeSet<>(Set.of(FACE)).toString());
        Constructor<?>[] constructors = GateChoir.class.getDeclaredConstructors();
        Check.isTrue("one constructor", constructors.length == 1
                && constructors[0].getParameterCount() == 0 && Modifier.isPublic(constructors[0].getModifiers()));
        noPrivateMethodWithANameOf(names, GateChoir.class);
        for (Class<?> inside : GateChoir.class.getDeclaredClasses()) {
            noPrivateMethodWithANameOf(names, inside);
        }
    }

    private static void noPrivateMethodWithANameOf(Set<String> names, Class<?> type) {
        for (Method method : type.getDeclaredMethods()) {
            boolean isPublic = Modifier.isPublic(method.getModifiers()) && type == GateChoir.class;
            Check.isTrue(method + " has a name of its own", isPublic || !names.contains(method.getName()));
            Check.isTrue(method + " takes at most seven", method.getParameterCount() <= 7);
        }
    }

    private static void nested() {
        Class<?>[] inside = GateChoir.class.getDeclaredClasses();
        Check.isTrue("at most twelve classes", inside.length < 12);
        for (Class<?> type : inside) {
            Check.isTrue(type + " is static", Modifier.isStatic(type.getModifiers()));
            Check.isTrue(type + " is not public", !Modifier.isPublic(type.getModifiers()));
            int fields = 0;
            for (Field field : type.getDeclaredFields()) {
                fields += Modifier.isStatic(field.getModifiers()) ? 0 : 1;
            }
            Check.isTrue(type + " has at most twenty fields", fields <= 20);
        }
        for (Field field : GateChoir.class.getDeclaredFields()) {
            int modifiers = field.getModifiers();
            Check.isTrue(field + " is final, if static", !Modifier.isStatic(modifiers) || Modifier.isFinal(modifiers));
        }
    }

    /** Comments and what is in quotes are set aside; .ci/run runs this from the project's folder. */
    private static void words() throws IOException {
        String source = Files.readString(Path.of("src/main/java/GateChoir.java"));
        String code = source.replaceAll("(?s)/\\*.*?\\*/", " ").replaceAll("//[^\n]*", " ").replaceAll("'[^']*'", " ");
        String banned = "throw|throws|try|catch|synchronized|assert|import|package|protected|lambda|System|Random|Thread|Object|double|float";
        Matcher found = Pattern.compile("\\b(" + banned + ")\\b|->|::").matcher(code);
        while (found.find()) {
            Check.isTrue("no '" + found.group() + "' in the class", false);
        }
        Check.isTrue("the class was read", code.contains("public final class GateChoir"));
    }
}

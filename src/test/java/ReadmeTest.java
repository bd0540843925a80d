import java.io.File;
import java.io.IOException;
import java.net.URL;
import java.net.URLClassLoader;
import java.nio.file.Files;
import java.nio.file.Path;
import java.util.ArrayList;
import java.util.LinkedHashMap;
import java.util.List;
import java.util.Map;
import java.util.TreeSet;
import java.util.regex.Matcher;
import java.util.regex.Pattern;
import javax.tools.ToolProvider;

/** What README.md says of the calls is what the document says, and what it shows of answers is so. */
final class ReadmeTest {
    private static final int PROMISES = 35;
    private static final int MOST_CALLS = 512;
    private static final Pattern REFUSAL = Pattern.compile("\\b(UNKNOWN|OUTSIDE|STATE|FULL)\\b");
    private static final Pattern SHOWN = Pattern.compile("(choir\\.(\\w+)\\(.*\\));\\s+// ([-\\w]+): .+");
    private static final Map<String, Integer> CONSTANTS = Map.of("UNKNOWN", GateChoir.UNKNOWN,
            "OUTSIDE", GateChoir.OUTSIDE, "STATE", GateChoir.STATE, "FULL", GateChoir.FULL, "NONE", GateChoir.NONE);

    private static List<String> lines;

    public static void main(String[] args) throws IOException, ReflectiveOperationException {
        lines = Files.readAllLines(Path.of("README.md"));
        constants();
        calls();
        answers();
        tests();
        Check.end("ReadmeTest");
    }

    /** The cells of the tables' rows that begin so, each without its blanks. */
    private static List<String[]> rows(String begin) {
        List<String[]> rows = new ArrayList<>();
        for (String line : lines) {
            if (line.startsWith("| ") && line.matches(begin + ".*")) {
                rows.add(line.substring(1, line.length() - 1).trim().split(" *\\| *", -1));
            }
        }
        return rows;
    }

    private static void constants() {
        List<String[]> rows = rows("\\| `[A-Z]+` \\|");
        Check.due("README's constants", CONSTANTS.size(), rows::size);
        for (String[] row : rows) {
            String name = row[0].replace("`", "");
            Check.due("README's " + name, Long.parseLong(row[1]), () -> CONSTANTS.getOrDefault(name, 0));
        }
    }

    private static void calls() {
        Map<String, String[]> told = new LinkedHashMap<>();
        for (String[] row : rows("\\| `[a-zA-Z]+\\(.*\\)` \\|")) {
            Check.isTrue("README has " + row[0] + " once", told.put(row[0].replace("`", ""), row) == null);
        }
        Check.due("README's calls", PROMISES - 1, told::size);
        for (int promise = 2; promise <= PROMISES; promise++) {
            String call = callOf(promise);
            String[] row = told.get(call);
            Check.isTrue("README has " + call + " in three cells", row != null && row.length == 3);
            if (row != null && row.length == 3) {
                Check.same("README's refusals of " + call, refusalsIn(row[2]), refusalsIn(Document.promise(promise)));
                boolean canBeNone = Document.promise(promise).contains("NONE");
                Check.isTrue("README tells when " + call + " is NONE", canBeNone == row[1].contains("NONE"));
            }
        }
    }

    /** "drive(beast, lane)" of a promise whose section has `int drive(int beast, int lane)`. */
    private static String callOf(int promise) {
        String section = Document.promise(promise);
        int start = section.indexOf('`') + 1;
        String face = section.substring(start, section.indexOf('`', start));
        return face.replaceAll("\\b(int|long|boolean) ", "");
    }

    private static String refusalsIn(String text) {
        StringBuilder found = new StringBuilder();
        Matcher matcher = REFUSAL.matcher(text);
        while (matcher.find()) {
            found.append(matcher.group()).append(' ');
        }
        return found.toString();
    }

    private static List<String> shownCode() {
        List<String> code = new ArrayList<>();
        boolean inside = false;
        for (String line : lines) {
            if (line.startsWith("```")) {
                inside = line.equals("```java");
            } else if (inside) {
                code.add(line);
            }
        }
        return code;
    }

    private static void answers() throws IOException, ReflectiveOperationException {
        List<String> shown = new ArrayList<>();
        List<Long> wants = new ArrayList<>();
        TreeSet<String> methods = new TreeSet<>();
        StringBuilder body = new StringBuilder();
        for (String line : shownCode()) {
            Matcher matcher = SHOWN.matcher(line);
            if (matcher.matches()) {
                shown.add(matcher.group(1));
                methods.add(matcher.group(2));
                wants.add(answerOf(matcher.group(3)));
                body.append("answers.add((long) ").append(matcher.group(1)).append(");\n");
            } else {
                Check.isTrue("README shows no answer in: " + line, !line.contains("//"));
                body.append(line).append('\n');
            }
        }
        Check.due("calls that README shows", PROMISES - 1, methods::size);
        compare(shown, wants, run(body.toString()));
    }

    private static long answerOf(String word) {
        return CONSTANTS.containsKey(word) ? CONSTANTS.get(word) : Long.parseLong(word);
    }

    private static void compare(List<String> shown, List<Long> wants, List<?> got) {
        Check.due("answers of README's run", wants.size(), got::size);
        for (int i = 0; i < Math.min(wants.size(), got.size()); i++) {
            long answer = (Long) got.get(i);
            Check.due("README's " + shown.get(i), wants.get(i), () -> answer);
        }
        Check.isTrue("README's run is short enough for one object", shown.size() * 4 < MOST_CALLS);
    }

    /** Compiled as it stands there, so that what README shows can be taken over as it is. */
    private static List<?> run(String body) throws IOException, ReflectiveOperationException {
        Path folder = Files.createTempDirectory("readme");
        Path source = folder.resolve("ReadmeRun.java");
        Files.writeString(source, "public final class ReadmeRun {\n"
                + "public static java.util.List<Long> answers() {\n"
                + "java.util.List<Long> answers = new java.util.ArrayList<>();\n"
                + body + "return answers;\n}\n}\n");
        int code = ToolProvider.getSystemJavaCompiler().run(null, null, null,
                "-cp", System.getProperty("java.class.path"), "-d", folder.toString(), source.toString());
        Check.due("compiling README's run", 0, () -> code);
        List<?> answers = code == 0 ? load(folder) : List.of();
        for (File file : folder.toFile().listFiles()) {
            Files.delete(file.toPath());
        }
        Files.delete(folder);
        return answers;
    }

    private static List<?> load(Path folder) throws IOException, ReflectiveOperationException {
        URL[] where = {folder.toUri().toURL()};
        try (URLClassLoader loader = new URLClassLoader(where, ReadmeTest.class.getClassLoader())) {
            return (List<?>) loader.loadClass("ReadmeRun").getMethod("answers").invoke(null);
        }
    }

    private static void tests() {
        TreeSet<String> there = new TreeSet<>();
        for (String name : new File("src/test/java").list()) {
            if (name.endsWith("Test.java")) {
                there.add(name.substring(0, name.length() - ".java".length()));
            }
        }
        TreeSet<String> told = new TreeSet<>();
        Matcher matcher = Pattern.compile("`(\\w+Test)`").matcher(String.join("\n", lines));
        while (matcher.find()) {
            told.add(matcher.group(1));
        }
        Check.same("README's tests", told.toString(), there.toString());
        Check.isTrue("README tells how to run them", lines.contains("    .ci/run") && new File(".ci/run").canExecute());
    }
}

import java.io.IOException;
import java.io.UncheckedIOException;
import java.nio.file.Files;
import java.nio.file.Path;

/** ../shared/DOC.md by its sections, so that a test can only name a sentence that stands there. */
final class Document {
    // .ci/run runs the tests from the project's folder.
    private static final String TEXT = plain(read(Path.of("../shared/DOC.md")));

    private Document() {
    }

    private static String read(Path path) {
        try {
            return Files.readString(path);
        } catch (IOException missing) {
            throw new UncheckedIOException(missing);
        }
    }

    /** Line ends and indents are how it is set, not what it says. */
    private static String plain(String text) {
        return text.replaceAll("\\s+", " ");
    }

    private static String from(String heading) {
        int start = TEXT.indexOf("## " + heading);
        if (start < 0) {
            throw new IllegalStateException("the document has no section " + heading);
        }
        int end = TEXT.indexOf(" ## ", start);
        return TEXT.substring(start, end < 0 ? TEXT.length() : end);
    }

    private static String whatItIs() {
        return from("What it is");
    }

    private static String terms() {
        return from("Terms");
    }

    static String promise(int number) {
        return from("Promise " + number + ":");
    }

    /** The method of a promise; for promise 1, the constructor, its first words. */
    static String methodOf(int number) {
        String section = promise(number);
        int colon = section.indexOf(": ");
        int end = section.indexOf(" `", colon);
        return section.substring(colon + 2, end);
    }

    static boolean says(int promise, String sentence) {
        String wanted = plain(sentence);
        return promise(promise).contains(wanted) || terms().contains(wanted) || whatItIs().contains(wanted);
    }
}

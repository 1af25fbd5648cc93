import java.io.IOException;
import java.nio.file.Files;
import java.nio.file.Path;

/** The document's sections, so that a test can name the very sentence that it is for. */
final class Document {
    private static final String TEXT = read();

    static String ofPromise(int number) {
        String from = cut("## Promise " + number + ": ", number == 38 ? "## Not promised" : "## Promise ");
        return from.substring(from.indexOf('\n'));
    }

    /** The last part goes as far as the first promise: what is said of exceptions stands behind it. */
    static String ofPart(int number) {
        if (number == 0) {
            return TEXT.substring(0, TEXT.indexOf("\n== 1. "));
        }
        return cut("\n== " + number + ". ", number == 6 ? "## Promise 1: " : "\n== ");
    }

    private static String cut(String head, String next) {
        int start = TEXT.indexOf(head);
        int end = start < 0 ? -1 : TEXT.indexOf(next, start + head.length());
        return end < 0 ? "" : TEXT.substring(start + head.length(), end);
    }

    private static String read() {
        try {
            return Files.readString(Path.of("../shared/DOC.md"));
        } catch (IOException e) {
            return "";
        }
    }
}

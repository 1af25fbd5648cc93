import java.io.IOException;
import java.nio.file.Files;
import java.nio.file.Path;
import java.util.ArrayList;
import java.util.List;
import java.util.regex.Matcher;
import java.util.regex.Pattern;
import java.util.stream.Stream;

/** No sentence of the document is left without a test: each is named by one of the tests of the bounds. */
public final class SentencesTest {
    private static final Check CHECK = new Check("SentencesTest");
    private static final Path TESTS = Path.of("src/test/java");
    private static final Pattern NAMED =
            Pattern.compile("CHECK\\.(promise|part)\\((\\d+), \"((?:[^\"\\\\]|\\\\.)*)\"\\);");

    private static final class Named {
        final boolean isPromise;
        final int number;
        final String sentence;

        Named(boolean isPromise, int number, String sentence) {
            this.isPromise = isPromise;
            this.number = number;
            this.sentence = sentence;
        }
    }

    public static void main(String[] args) throws IOException {
        List<Named> named = allNamed();
        for (int promise = 1; promise <= 38; promise++) {
            int number = promise;
            CHECK.isTrue("promise " + promise + " is named",
                    named.stream().anyMatch(n -> n.isPromise && n.number == number));
            for (String line : Document.ofPromise(promise).split("\n")) {
                if (line.startsWith("Throws ") || line.startsWith("Returns ")) {
                    CHECK.isTrue("promise " + promise + " is named: " + line,
                            named.stream().anyMatch(n -> n.isPromise && n.number == number && isIn(n, line)));
                }
            }
        }
        for (int part = 1; part <= 6; part++) {
            int number = part;
            for (String sentence : Document.ofPart(part).split("(?<=\\.) +|\\n+")) {
                String bare = sentence.trim();
                if (bare.endsWith(".") && !bare.startsWith("The constructor and the methods follow")) {
                    CHECK.isTrue("part " + part + " is named: " + bare,
                            named.stream().anyMatch(n -> !n.isPromise && n.number == number && isIn(n, bare)));
                }
            }
        }
        CHECK.end();
    }

    /** What is thrown has to be named whole; of a longer sentence a part that says one thing is enough. */
    private static boolean isIn(Named named, String sentence) {
        return sentence.startsWith("Throws ") ? named.sentence.equals(sentence) : sentence.contains(named.sentence);
    }

    private static List<Named> allNamed() throws IOException {
        List<Named> named = new ArrayList<>();
        try (Stream<Path> files = Files.list(TESTS)) {
            for (Path file : files.filter(f -> f.toString().endsWith("BoundsTest.java")).toList()) {
                Matcher m = NAMED.matcher(Files.readString(file));
                while (m.find()) {
                    boolean isPromise = m.group(1).equals("promise");
                    named.add(new Named(isPromise, Integer.parseInt(m.group(2)), m.group(3).replace("\\\"", "\"")));
                }
            }
        }
        return named;
    }
}

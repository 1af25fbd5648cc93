import java.io.ByteArrayOutputStream;
import java.io.IOException;
import java.io.PrintStream;
import java.lang.reflect.Method;
import java.lang.reflect.Modifier;
import java.net.URL;
import java.net.URLClassLoader;
import java.nio.file.Files;
import java.nio.file.Path;
import java.util.List;
import java.util.stream.Stream;
import javax.tools.JavaCompiler;
import javax.tools.ToolProvider;

/** README.md says how it is: its example prints what it says, and no call and no test is missing in it. */
public final class ReadmeTest {
    private static final Check CHECK = new Check("ReadmeTest");
    private static final Path PAGE = Path.of("README.md");
    private static final Path TESTS = Path.of("src/test/java");
    private static final Path OUT = Path.of("build/example");

    public static void main(String[] args) throws Exception {
        String page = Files.readString(PAGE);
        CHECK.same("what the example prints", printed(between(page, "```java\n")), between(page, "```text\n"));
        eachCallIsNamed(page);
        eachTestIsNamed(page);
        CHECK.end();
    }

    /** Up to the end of the block, with the line break ahead of it. */
    private static String between(String page, String head) {
        int start = page.indexOf(head);
        int end = start < 0 ? -1 : page.indexOf("```", start + head.length());
        return end < 0 ? "" : page.substring(start + head.length(), end);
    }

    private static String printed(String program) throws Exception {
        Files.createDirectories(OUT);
        Path file = OUT.resolve("Example.java");
        Files.writeString(file, program);
        JavaCompiler compiler = ToolProvider.getSystemJavaCompiler();
        int wrong = compiler.run(null, System.out, System.out,
                "-cp", System.getProperty("java.class.path"), "-d", OUT.toString(), file.toString());
        return wrong == 0 ? printedByMain() : "nothing: it can not be compiled";
    }

    private static String printedByMain() throws Exception {
        PrintStream usual = System.out;
        ByteArrayOutputStream bytes = new ByteArrayOutputStream();
        try (URLClassLoader loader = new URLClassLoader(new URL[] {OUT.toUri().toURL()})) {
            Method main = loader.loadClass("Example").getMethod("main", String[].class);
            System.setOut(new PrintStream(bytes, true));
            main.invoke(null, (Object) new String[0]);
        } finally {
            System.setOut(usual);
        }
        return bytes.toString().replace("\r\n", "\n");
    }

    private static void eachCallIsNamed(String page) {
        for (Method method : Wavesale.class.getDeclaredMethods()) {
            if (Modifier.isPublic(method.getModifiers())) {
                CHECK.isTrue("a call is named: " + method.getName(), page.contains("`" + method.getName() + "("));
            }
        }
    }

    private static void eachTestIsNamed(String page) throws IOException {
        try (Stream<Path> files = Files.list(TESTS)) {
            List<String> names = files.map(f -> f.getFileName().toString()).toList();
            for (String name : names) {
                if (name.endsWith("Test.java")) {
                    String bare = name.substring(0, name.indexOf(".java"));
                    CHECK.isTrue("a test is named: " + bare, page.contains("| `" + bare + "` |"));
                }
            }
        }
    }
}

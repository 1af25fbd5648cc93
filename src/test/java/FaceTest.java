import java.io.IOException;
import java.lang.reflect.Constructor;
import java.lang.reflect.Field;
import java.lang.reflect.Method;
import java.lang.reflect.Modifier;
import java.nio.charset.StandardCharsets;
import java.nio.file.Files;
import java.nio.file.Path;
import java.util.Arrays;
import java.util.Set;
import java.util.TreeSet;
import java.util.regex.Matcher;
import java.util.regex.Pattern;

/** The face is the document's, and the file keeps to what of LANGUAGE.md can be seen from outside. */
public final class FaceTest {
    private static final Check CHECK = new Check("FaceTest");
    private static final Path DOCUMENT = Path.of("../shared/DOC.md");
    private static final Path PROGRAM = Path.of("src/main/java/Wavesale.java");
    private static final int MOST_LINES = 60;
    private static final int MOST_CLASSES = 12;
    private static final int MOST_FIELDS = 20;
    private static final int MOST_PARAMETERS = 7;

    public static void main(String[] args) throws IOException {
        faceIsThatOfTheDocument();
        nothingElseIsSeen();
        noPrivateMethodBearsAPublicName();
        sizesAreSmall();
        textKeepsToTheLanguage();
        CHECK.end();
    }

    private static void faceIsThatOfTheDocument() throws IOException {
        String text = Files.readString(DOCUMENT);
        int start = text.indexOf("```java");
        String face = text.substring(start, text.indexOf("```", start + 3));
        Set<String> due = new TreeSet<>();
        Matcher m = Pattern.compile("public (\\w+) (\\w+)\\((.*?)\\)(?: throws (.*?))?;").matcher(face);
        while (m.find()) {
            String types = m.group(3).replaceAll(" \\w+(,|$)", "$1");
            due.add(m.group(1) + " " + m.group(2) + "(" + types + ") " + (m.group(4) == null ? "" : m.group(4)));
        }
        Set<String> got = new TreeSet<>();
        for (Method method : Wavesale.class.getDeclaredMethods()) {
            if (Modifier.isPublic(method.getModifiers())) {
                got.add(method.getReturnType().getSimpleName() + " " + method.getName() + "("
                        + names(method.getParameterTypes()) + ") " + names(method.getExceptionTypes()));
            }
        }
        CHECK.isTrue("the document has a face", due.size() > 30);
        CHECK.same("the face", got, due);
        CHECK.isTrue("the class is public and final",
                Modifier.isPublic(Wavesale.class.getModifiers()) && Modifier.isFinal(Wavesale.class.getModifiers()));
    }

    private static String names(Class<?>[] types) {
        return String.join(", ", Arrays.stream(types).map(Class::getSimpleName).toArray(String[]::new));
    }

    private static void nothingElseIsSeen() {
        for (Method method : Wavesale.class.getDeclaredMethods()) {
            int flags = method.getModifiers();
            CHECK.isTrue("method " + method.getName(), Modifier.isPublic(flags) || Modifier.isPrivate(flags));
        }
        Constructor<?>[] constructors = Wavesale.class.getDeclaredConstructors();
        CHECK.same("constructors", constructors.length, 1);
        CHECK.isTrue("the constructor is public", Modifier.isPublic(constructors[0].getModifiers()));
        for (Field field : Wavesale.class.getDeclaredFields()) {
            CHECK.isTrue("field " + field.getName(), Modifier.isPrivate(field.getModifiers()));
        }
        for (Class<?> inner : Wavesale.class.getDeclaredClasses()) {
            int flags = inner.getModifiers();
            CHECK.isTrue("class " + inner.getName(), Modifier.isStatic(flags)
                    && !Modifier.isPublic(flags) && !Modifier.isProtected(flags));
        }
    }

    private static void noPrivateMethodBearsAPublicName() {
        Set<String> ofFace = new TreeSet<>();
        for (Method method : Wavesale.class.getDeclaredMethods()) {
            if (Modifier.isPublic(method.getModifiers())) {
                CHECK.isTrue("two public ones are named " + method.getName(), ofFace.add(method.getName()));
            }
        }
        for (Method method : Wavesale.class.getDeclaredMethods()) {
            if (!Modifier.isPublic(method.getModifiers())) {
                CHECK.isTrue("a private " + method.getName(), !ofFace.contains(method.getName()));
            }
        }
        for (Class<?> inner : Wavesale.class.getDeclaredClasses()) {
            for (Method method : inner.getDeclaredMethods()) {
                CHECK.isTrue(inner.getName() + "." + method.getName(), !ofFace.contains(method.getName()));
            }
        }
    }

    private static void sizesAreSmall() {
        Class<?>[] inners = Wavesale.class.getDeclaredClasses();
        CHECK.isTrue("classes: " + inners.length, inners.length < MOST_CLASSES);
        sizesOf(Wavesale.class);
        for (Class<?> inner : inners) {
            sizesOf(inner);
        }
    }

    private static void sizesOf(Class<?> type) {
        int fields = 0;
        for (Field field : type.getDeclaredFields()) {
            boolean isStatic = Modifier.isStatic(field.getModifiers());
            fields += isStatic ? 0 : 1;
            CHECK.isTrue("a static field is final: " + field, !isStatic || Modifier.isFinal(field.getModifiers()));
        }
        CHECK.isTrue("fields of " + type.getName() + ": " + fields, fields <= MOST_FIELDS);
        for (Method method : type.getDeclaredMethods()) {
            CHECK.isTrue("parameters of " + method.getName(), method.getParameterCount() <= MOST_PARAMETERS);
        }
    }

    private static void textKeepsToTheLanguage() throws IOException {
        String text = Files.readString(PROGRAM, StandardCharsets.ISO_8859_1);
        for (int k = 0; k < text.length(); k++) {
            if (text.charAt(k) > 126) {
                CHECK.isTrue("sign " + (int) text.charAt(k) + " at " + k, false);
            }
        }
        String code = text.replaceAll("(?s)/\\*.*?\\*/", "").replaceAll("//.*", "");
        String bare = code.replaceAll("\"[^\"]*\"", "\"\"");
        String[] forbidden = {"->", "::", "\\btry\\b", "\\bcatch\\b", "\\bfinally\\b", "\\bsynchronized\\b",
            "\\bassert\\b", "\\bwhile\\b", "\\bpackage\\b", "\"\" *\\+", "\\+ *\"\"", "\\bnull\\b", "\\bvar\\b",
            "\\bSystem\\.(?!arraycopy)", "Exact\\(", "\\bMAX_VALUE\\b", "\\bMIN_VALUE\\b", "@\\w+", "\\binstanceof\\b",
            "import (?!java\\.util\\.Arrays;)", "\\bequals\\b", "\\bhashCode\\b", "\\bthrow (?!new Illegal(State|Argument)"
            + "Exception\\(\"\"\\)|new IndexOutOfBoundsException\\(\"\"\\))"};
        for (String pattern : forbidden) {
            Matcher m = Pattern.compile(pattern).matcher(bare);
            CHECK.isTrue("in the program: " + pattern, !m.find());
        }
        int since = 0;
        int number = 0;
        for (String line : text.split("\n")) {
            number++;
            since = line.matches(" {4,8}\\S.*[({,]") && !line.contains(" class ") ? number : since;
            CHECK.isTrue("line " + number + " is long", line.length() <= 120);
            if (line.matches(" {4,8}\\}")) {
                CHECK.isTrue("a method that ends at line " + number, number - since <= MOST_LINES);
            }
        }
    }
}

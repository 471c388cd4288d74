import java.io.IOException;
import java.lang.reflect.InvocationTargetException;
import java.lang.reflect.Method;
import java.lang.reflect.Modifier;
import java.net.URL;
import java.net.URLClassLoader;
import java.nio.file.DirectoryStream;
import java.nio.file.Files;
import java.nio.file.Path;
import java.util.List;
import java.util.regex.Matcher;
import java.util.regex.Pattern;
import javax.tools.JavaCompiler;
import javax.tools.ToolProvider;

/** README.md: what it says of the class and of the tests is so. */
public final class ReadmeTest {
    private static final String BLOCK_END = "```";
    /** A call of the example with the answer that its comment begins with. */
    private static final Pattern ANSWERED = Pattern.compile("(desk\\.\\w+\\(.*\\));\\s+// (-?\\d+):.*");
    /** A text of policies in the first cell of a row. */
    private static final Pattern TEXT = Pattern.compile("\\| `([pdDPFXYO].*[;}\\d])` \\|.*");
    private static final Pattern CALL = Pattern.compile("\\| `(\\w+)\\(([^)]*)\\)` \\|.*");

    private final Path tests;
    private final List<String> lines;

    private ReadmeTest(Path root) throws IOException {
        tests = root.resolve("src/test/java");
        lines = Files.readAllLines(root.resolve("README.md"));
    }

    public static void main(String[] args) throws Exception {
        Path program = Path.of(System.getProperty("program")).toAbsolutePath().normalize();
        ReadmeTest test = new ReadmeTest(program.getParent().resolve("../../..").normalize());
        test.exampleAnswersAsItSays();
        test.textsAreRight();
        test.namesEveryCall();
        test.namesEveryTest();
        Due.end();
    }

    /** Makes a program of the example, in which each answer that is told is looked at. */
    private void exampleAnswersAsItSays() throws Exception {
        Due.sentence("README.md says how to use the class: the example");
        StringBuilder source = new StringBuilder("public class Example { public static void main(String[] args) {\n");
        int told = 0;
        for (int at = lines.indexOf("```java") + 1; at > 0 && !lines.get(at).equals(BLOCK_END); at++) {
            Matcher matcher = ANSWERED.matcher(lines.get(at));
            if (matcher.matches()) {
                told++;
                source.append("if (").append(matcher.group(1)).append(" != ").append(matcher.group(2))
                        .append(") throw new RuntimeException();\n");
            } else {
                source.append(lines.get(at)).append('\n');
            }
        }
        source.append("} }\n");
        Due.same("the example tells answers", true, told >= 5);
        Due.same("the example", "as it says", runOf(source.toString()));
    }

    private static String runOf(String source) throws Exception {
        Path folder = Files.createTempDirectory("example");
        Path file = folder.resolve("Example.java");
        try {
            Files.writeString(file, source);
            JavaCompiler compiler = ToolProvider.getSystemJavaCompiler();
            String classes = System.getProperty("java.class.path");
            int code = compiler.run(null, null, null, "-cp", classes, "-d", folder.toString(), file.toString());
            return code != 0 ? "does not compile" : outcomeIn(folder);
        } finally {
            Files.deleteIfExists(folder.resolve("Example.class"));
            Files.deleteIfExists(file);
            Files.deleteIfExists(folder);
        }
    }

    private static String outcomeIn(Path folder) throws Exception {
        URL[] places = {folder.toUri().toURL()};
        try (URLClassLoader loader = new URLClassLoader(places)) {
            Method main = loader.loadClass("Example").getMethod("main", String[].class);
            main.invoke(null, (Object) new String[0]);
            return "as it says";
        } catch (InvocationTargetException e) {
            return e.getCause() + " at its line " + lineOf(e.getCause());
        }
    }

    private static int lineOf(Throwable thrown) {
        for (StackTraceElement element : thrown.getStackTrace()) {
            if (element.getClassName().equals("Example")) {
                // One line of the program stands before the example's first.
                return element.getLineNumber() - 1;
            }
        }
        return -1;
    }

    private void textsAreRight() {
        Due.sentence("README.md says how to use the class: the texts of policies");
        int texts = 0;
        for (String line : lines) {
            Matcher matcher = TEXT.matcher(line);
            if (matcher.matches()) {
                texts++;
                // A bar within a table's cell is written with a stroke before it.
                String text = matcher.group(1).replace("\\|", "|");
                AccessDesk desk = new AccessDesk();
                Due.feed(desk, text);
                Due.works(text, desk::policy);
                Due.answers("place() after " + text, -1, desk::place);
            }
        }
        Due.same("there are texts", true, texts >= 5);
    }

    private void namesEveryCall() {
        Due.sentence("README.md says how to use the class: its calls");
        for (Method method : AccessDesk.class.getDeclaredMethods()) {
            if (Modifier.isPublic(method.getModifiers())) {
                Due.same("the arguments told of " + method.getName(), method.getParameterCount(),
                        argumentsToldOf(method.getName()));
            }
        }
    }

    private int argumentsToldOf(String name) {
        for (String line : lines) {
            Matcher matcher = CALL.matcher(line);
            if (matcher.matches() && matcher.group(1).equals(name)) {
                return matcher.group(2).isEmpty() ? 0 : matcher.group(2).split(",").length;
            }
        }
        return -1;
    }

    private void namesEveryTest() throws IOException {
        Due.sentence("README.md says how to run its tests");
        Due.same("the script", true, lines.contains(".ci/run"));
        String all = String.join("\n", lines);
        try (DirectoryStream<Path> files = Files.newDirectoryStream(tests, "*Test.java")) {
            for (Path file : files) {
                String name = file.getFileName().toString().replace(".java", "");
                Due.same(name + " is named", true, Pattern.compile("\\b" + name + "\\b").matcher(all).find());
            }
        }
    }
}

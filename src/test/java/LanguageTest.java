import java.io.IOException;
import java.nio.file.Files;
import java.nio.file.Path;
import java.util.ArrayList;
import java.util.List;
import java.util.Set;
import java.util.TreeSet;
import java.util.regex.Matcher;
import java.util.regex.Pattern;

/** The rules of LANGUAGE.md that can be seen in the program's text; FaceTest looks at rules 1 and 5. */
public final class LanguageTest {
    private static final Pattern LIBRARY =
            Pattern.compile("\\b(Integer|Long|Math|System|Arrays|List|String)\\.\\w+");
    private static final Pattern THROWN = Pattern.compile("\\bthrow\\b.*");
    /** A method's first line (its name is group 2), or a constructor's (which has no group 2). */
    private static final Pattern METHOD = Pattern.compile(
            "^( {4}| {8})(?:[\\w\\[\\]]+ )+(\\w+)\\(([^)]*)\\)[^;]*$"
            + "|^( {4}| {8})(\\w+)\\(([^)]*)\\) \\{$");

    private final List<String> lines = new ArrayList<>();

    private LanguageTest(Path program) throws IOException {
        boolean isComment = false;
        for (String line : Files.readAllLines(program)) {
            String text = line.strip();
            isComment = isComment || text.startsWith("/*");
            lines.add(isComment || text.startsWith("//") ? "" : line);
            isComment = isComment && !text.endsWith("*/");
        }
    }

    public static void main(String[] args) throws IOException {
        LanguageTest test = new LanguageTest(Path.of(System.getProperty("program")));
        test.usesNoOtherWords();
        test.usesNoOtherLibrary();
        test.throwsNothingElse();
        test.makesObjectsInConstructorsAlone();
        test.staysSmall();
        Due.end();
    }

    private String all() {
        return String.join("\n", lines);
    }

    private void usesNoOtherWords() {
        Due.sentence("rules 2, 3 and 6: no lambda, no method reference, no synchronized, assert, finally");
        String[] words = {"package", "import", "synchronized", "assert", "finally", "try", "catch", "protected",
            "volatile", "transient", "native", "double", "float", "hashCode", "toString", "getMessage", "var"};
        for (String word : words) {
            Due.same(word, false, Pattern.compile("\\b" + word + "\\b").matcher(all()).find());
        }
        Due.same("->", false, all().contains("->"));
        Due.same("::", false, all().contains("::"));
        Due.same("a static block", false, Pattern.compile("\\bstatic \\{").matcher(all()).find());
    }

    private void usesNoOtherLibrary() {
        Due.sentence("rule 4: The library: only what stands here");
        Set<String> used = new TreeSet<>();
        Matcher matcher = LIBRARY.matcher(all());
        while (matcher.find()) {
            used.add(matcher.group());
        }
        Set<String> allowed = Set.of("Integer.bitCount", "Math.max", "Math.min", "Math.floorMod");
        Due.same("what is used beyond " + allowed, true, allowed.containsAll(used));
    }

    private void throwsNothingElse() {
        Due.sentence("rule 6: throw new E() or throw new E(\"a written text\")");
        Pattern due = Pattern.compile("throw new (IllegalArgumentException|IllegalStateException"
                + "|IndexOutOfBoundsException|UnsupportedOperationException)\\((\"[^\"]*\")?\\);");
        Matcher matcher = THROWN.matcher(all());
        while (matcher.find()) {
            Due.same(matcher.group(), true, due.matcher(matcher.group()).matches());
        }
    }

    /** So nothing but an exception is made by a call. */
    private void makesObjectsInConstructorsAlone() {
        Due.sentence("rule 12: What a run makes is counted");
        String inside = "";
        for (String line : lines) {
            Matcher matcher = METHOD.matcher(line);
            if (matcher.matches()) {
                inside = matcher.group(2) == null ? "constructor" : matcher.group(2);
            }
            if (line.startsWith("    public AccessDesk()")) {
                inside = "constructor";
            }
            if (line.contains("new ") && !line.contains("throw new ")) {
                Due.same(line.strip() + " stands in", "constructor", inside);
            }
        }
    }

    private void staysSmall() {
        Due.sentence("rule 11: seven parameters, some sixty lines, some twelve classes, some twenty fields");
        int classes = 0;
        int opened = -1;
        for (int at = 0; at < lines.size(); at++) {
            String line = lines.get(at);
            Matcher matcher = METHOD.matcher(line);
            if (matcher.matches()) {
                String parameters = matcher.group(2) == null ? matcher.group(6) : matcher.group(3);
                Due.same(line.strip() + " has few parameters", true, parameters.split(",").length <= 7);
                opened = at;
            }
            if (opened >= 0 && (line.equals("    }") || line.equals("        }"))) {
                Due.same(lines.get(opened).strip() + " is short", true, at - opened <= 60);
            }
            classes += Pattern.compile("\\bclass \\w+ \\{$").matcher(line).find() ? 1 : 0;
        }
        Due.same("classes", true, classes >= 1 && classes <= 12);
        for (Class<?> nested : AccessDesk.class.getDeclaredClasses()) {
            Due.same("fields of " + nested, true, nested.getDeclaredFields().length <= 20);
        }
    }
}

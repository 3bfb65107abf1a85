import java.io.IOException;
import java.nio.file.Files;
import java.nio.file.Path;
import java.util.Set;
import java.util.TreeSet;
import java.util.regex.Matcher;
import java.util.regex.Pattern;

/** README.md tells the truth: its example's answers, its tables of calls and constants, and its list of tests. */
public final class ReadmeTest {
    private static final Path DOCUMENT = Path.of("../shared/DOC.md");
    private static final Path README = Path.of("README.md");
    private static final Path TESTS = Path.of("src/test/java");

    private final String readme;
    private final String document;
    private final Script script = new Script("ReadmeTest");

    private ReadmeTest() throws IOException {
        readme = Files.readString(README);
        document = Files.readString(DOCUMENT);
    }

    public static void main(String[] args) throws IOException {
        ReadmeTest test = new ReadmeTest();
        test.example();
        test.calls();
        test.refusals();
        test.constants();
        test.tests();
        test.script.end();
    }

    private static Set<String> found(String pattern, String text) {
        Set<String> found = new TreeSet<>();
        Matcher matcher = Pattern.compile(pattern).matcher(text);
        while (matcher.find()) {
            found.add(matcher.group(1));
        }
        return found;
    }

    private void same(String what, Set<String> there, Set<String> due) {
        script.holds(!due.isEmpty() && there.equals(due), "README.md has " + what + " " + there + ", due are " + due);
    }

    private void example() {
        script.fresh("the example of README.md");
        int lines = 0;
        Matcher line = Pattern.compile("(?m)^sets\\.(\\w+\\(.*\\));\\s+// (-?\\d+|[A-Z_]+)(:.*)?$").matcher(readme);
        while (line.find()) {
            lines++;
            // A constant of type long is written with its letter in Java, but not in the document.
            script.more(line.group(1).replaceAll("(?<=\\d)L", "") + ": " + line.group(2));
        }
        int written = readme.split("(?m)^sets\\.", -1).length - 1;
        script.holds(lines > 0 && lines == written, lines + " of " + written + " lines of the example were read");
    }

    /** Every call of the face, with the names of its arguments. */
    private void calls() {
        Set<String> due = new TreeSet<>();
        for (String call : found("public (?:int|long) (\\w+\\(.*?\\));", document)) {
            due.add(call.replaceAll("\\b(?:int|long) ", ""));
        }
        same("the calls", found("(?m)^\\| `(\\w+\\(.*?\\))` \\|", readme), due);
    }

    /** The codes behind each call, in the order in which its promise names them. */
    private void refusals() {
        String codes = "\\b(?:BAD_ARGUMENT|NO_SUCH_POINT|FULL|DUPLICATE|NONE|EMPTY|EMPTY_SLOT|WRONG_TYPE"
                + "|INDEX_OUT_OF_RANGE|NEGATIVE_SIZE|NO_VALUE)\\b";
        Matcher row = Pattern.compile("(?m)^\\| `(\\w+)\\(.*?\\)` \\|.*\\|(.*)\\|$").matcher(readme);
        while (row.find()) {
            Matcher promise = Pattern.compile("(?ms)^## Promise \\d+: " + row.group(1) + "$.*?^(Returns [^\n]*)\n*(?=^## )")
                    .matcher(document);
            boolean told = promise.find();
            script.holds(told, "no promise was read for " + row.group(1));
            if (told) {
                String due = inOrder(codes, promise.group(1));
                String there = inOrder(codes, row.group(2));
                script.holds(there.equals(due), row.group(1) + " refuses" + there + " in README.md, due is" + due);
            }
        }
    }

    private static String inOrder(String pattern, String text) {
        StringBuilder list = new StringBuilder();
        Matcher matcher = Pattern.compile(pattern).matcher(text);
        while (matcher.find()) {
            list.append(' ').append(matcher.group());
        }
        return list.toString();
    }

    private void constants() {
        Set<String> due = new TreeSet<>();
        for (String constant : found("public static final (?:int|long) (.*?);", document)) {
            due.add(constant.replace(" = ", " "));
        }
        Set<String> there = new TreeSet<>();
        for (String row : found("(?m)^\\| (`[A-Z_]+` \\| [^|]*) \\|", readme)) {
            there.add(row.replace("`", "").replace(" | ", " "));
        }
        same("the constants", there, due);
    }

    private void tests() throws IOException {
        Set<String> due = new TreeSet<>();
        try (var files = Files.newDirectoryStream(TESTS, "*Test.java")) {
            for (Path file : files) {
                due.add(file.getFileName().toString().replace(".java", ""));
            }
        }
        same("the tests", found("(?m)^\\| `(\\w+Test)` \\|", readme), due);
    }
}

import java.io.IOException;
import java.nio.file.Files;
import java.nio.file.Path;
import java.util.List;
import java.util.regex.MatchResult;
import java.util.regex.Pattern;

/** src/test/SENTENCES.md: each test that it names for a sentence is there, and main calls it; all 22 promises are. */
public final class SentencesTest {
    private static final Path TABLES = Path.of("src/test/SENTENCES.md");
    private static final Path TESTS = Path.of("src/test/java");
    private static final Pattern NAMED = Pattern.compile("`(\\w+Test)\\.(\\w+)`");
    private static final int PROMISES = 22;

    public static void main(String[] args) throws IOException {
        String tables = Files.readString(TABLES);
        for (String line : tables.split("\n")) {
            if (line.startsWith("| ") && !line.startsWith("| sentence") && !line.startsWith("| promise")) {
                holdRow(line);
            }
        }
        for (int promise = 1; promise <= PROMISES; promise++) {
            Both.hold("promise " + promise, "" + tables.contains("\n| " + promise + " | "), "true");
        }
        Both.end();
    }

    private static void holdRow(String line) throws IOException {
        List<MatchResult> named = NAMED.matcher(line).results().toList();
        Both.hold("a test is named: " + line, "" + (!named.isEmpty() || line.contains("| all of `")), "true");
        for (MatchResult test : named) {
            Path source = TESTS.resolve(test.group(1) + ".java");
            Both.hold(source + " is there", "" + Files.exists(source), "true");
            if (Files.exists(source)) {
                holdCalled(source, test.group(2));
            }
        }
    }

    private static void holdCalled(Path source, String method) throws IOException {
        String text = Files.readString(source);
        int from = text.indexOf("void main("), to = text.indexOf("\n    }\n", from);
        boolean called = method.equals("main") || text.substring(from, to).contains(" " + method + "(");
        Both.hold(source + " calls " + method, "" + called, "true");
        Both.hold(source + " has " + method, "" + text.contains("void " + method + "("), "true");
    }
}

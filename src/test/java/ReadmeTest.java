import java.io.File;
import java.io.IOException;
import java.nio.file.Files;
import java.nio.file.Path;
import java.util.List;
import java.util.regex.Matcher;
import java.util.regex.Pattern;

/**
 * What README.md shows: each call with the answer that stands behind it, in the order of the page,
 * and the names in its tables. Run in the project's folder.
 */
public final class ReadmeTest {
    private static final Path README = Path.of("README.md");
    private static final Path TESTS = Path.of("src/test/java");

    private static final String NEW = "BellTowerPlanner planner = new BellTowerPlanner();";
    private static final Pattern CALL = Pattern.compile(
            "planner\\.(\\w+\\([-\\d, ]*\\)); +// (throws \\w+|-?\\d+|true|false)(?:: (.+))?");
    private static final Pattern APPENDED = Pattern.compile("append\\((.*)\\)");
    private static final Pattern WRITTEN = Pattern.compile("\"(.*)\".*");
    private static final Pattern ROW_OF_TEST = Pattern.compile("\\| `(\\w+Test)` \\|.*");
    private static final int LEAST_CALLS = 40;

    private ReadmeTest() {
    }

    public static void main(String[] args) throws IOException {
        List<String> lines = Files.readAllLines(README);
        calls(lines);
        tests(lines);
        classes(String.join("\n", lines));
        Check.finish();
    }

    private static void calls(List<String> lines) {
        boolean shown = false;
        int calls = 0;
        Trial trial = new Trial();
        for (String line : lines) {
            Matcher call = CALL.matcher(line);
            if (line.startsWith("```")) {
                shown = line.equals("```java");
            } else if (shown && line.equals(NEW)) {
                trial = new Trial();
            } else if (shown && call.matches()) {
                Script.due(trial, call.group(1), call.group(2));
                appended(call.group(1), call.group(3));
                calls++;
            } else if (shown) {
                Check.same("\"" + line + "\" is a call with its answer", 1, 0);
            }
        }
        Check.same("the page shows too few calls: " + calls, 0, calls < LEAST_CALLS ? 1 : 0);
    }

    /** Behind a call of append() stands the text that it adds. */
    private static void appended(String call, String comment) {
        Matcher numbers = APPENDED.matcher(call);
        if (!numbers.matches()) {
            return;
        }
        Matcher written = WRITTEN.matcher(comment == null ? "" : comment);
        Check.same(call + " shows its text", 1, written.matches() ? 1 : 0);
        if (written.matches()) {
            String text = textOf(Script.numbers(numbers.group(1)));
            Check.same(call + " adds " + comment, 1, text.equals(written.group(1)) ? 1 : 0);
        }
    }

    private static String textOf(int[] words) {
        StringBuilder text = new StringBuilder();
        for (int word : words) {
            for (int bits = 24; bits >= 0; bits -= 8) {
                text.append((char) (word >> bits & 255));
            }
        }
        return text.toString().replaceAll("\0+$", "");
    }

    /** The page names each test that .ci/run runs, and no other. */
    private static void tests(List<String> lines) {
        int named = 0;
        for (String line : lines) {
            Matcher row = ROW_OF_TEST.matcher(line);
            if (row.matches()) {
                boolean there = Files.exists(TESTS.resolve(row.group(1) + ".java"));
                Check.same(row.group(1) + " is there", 1, there ? 1 : 0);
                named++;
            }
        }
        File[] files = TESTS.toFile().listFiles((folder, name) -> name.endsWith("Test.java"));
        Check.same("tests that the page names", files == null ? 0 : files.length, named);
    }

    private static void classes(String page) {
        for (Class<?> nested : BellTowerPlanner.class.getDeclaredClasses()) {
            boolean named = page.contains("| `" + nested.getSimpleName() + "` |");
            Check.same("the page names " + nested.getSimpleName(), 1, named ? 1 : 0);
        }
    }
}

import java.io.IOException;
import java.nio.file.Files;
import java.nio.file.Path;
import java.util.regex.Matcher;
import java.util.regex.Pattern;

/**
 * The three examples of the document: each result written out here, and once more as it stands in
 * the document. Run in the project's folder, beside which the document stands.
 */
public final class ExamplesTest {
    private static final Path DOCUMENT = Path.of("../shared/DOC.md");
    private static final Pattern RESULT =
            Pattern.compile("(\\w+\\([-\\d, ]*\\)) (?:returns ([-\\w]+)|(throws \\w+))");

    private ExamplesTest() {
    }

    public static void main(String[] args) throws IOException {
        first();
        second();
        third();
        asInTheDocument();
        Check.finish();
    }

    private static void asInTheDocument() throws IOException {
        String document = Files.readString(DOCUMENT).replaceAll("\\s+", " ");
        int begin = document.indexOf("Example 1:");
        int end = document.indexOf("The constants:");
        Check.same("the examples stand in the document", 1, begin >= 0 && end > begin ? 1 : 0);
        String[] examples = document.substring(begin, end).split("Example \\d+:");
        Check.same("examples", 3, examples.length - 1);
        int results = 0;
        for (String example : examples) {
            results += runExample(example);
        }
        Check.same("results of the examples", 3 + 14 + 11, results);
    }

    private static int runExample(String example) {
        Trial trial = new Trial();
        Matcher matcher = RESULT.matcher(example);
        int results = 0;
        while (matcher.find()) {
            String answer = matcher.group(2) != null ? matcher.group(2) : matcher.group(3);
            Script.due(trial, matcher.group(1), answer);
            results++;
        }
        return results;
    }

    private static void first() {
        BellTowerPlanner p = new BellTowerPlanner();
        Check.due("torque(0)", Check.STATE, () -> p.torque(0));
        Check.due("load()", -11, p::load);
        Check.due("errorPosition()", 0, p::errorPosition);
    }

    private static void second() {
        BellTowerPlanner p = new BellTowerPlanner();
        Check.due("append 1", 20,
                () -> p.append(1650811245, 540618800, 540291120, 996304236, 1814049072));
        Check.due("append 2", 40, () -> p.append(807416352, 943390720, 0, 0, 0));
        Check.due("truncate(26)", 26, () -> p.truncate(26));
        Check.due("load()", 1, p::load);
        Check.due("hang(0, 0, 4)", 1, () -> p.hang(0, 0, 4));
        Check.due("torque(0)", 400, () -> p.torque(0));
        Check.due("shift(0, 5)", -4, () -> p.shift(0, 5));
        Check.due("startSwing(0, 2, 4)", 1, () -> p.startSwing(0, 2, 4));
        Check.due("offset(0, 4)", 4, () -> p.offset(0, 4));
        Check.due("offset(0, 8)", -4, () -> p.offset(0, 8));
        Check.due("strikes(0, 0, 20)", 5, () -> p.strikes(0, 0, 20));
        Check.due("ropeLength(0)", 990, () -> p.ropeLength(0));
        Check.due("fewestPieces()", -2, p::fewestPieces);
        Check.due("extraPiece()", 990, p::extraPiece);
    }

    private static void third() {
        BellTowerPlanner p = new BellTowerPlanner();
        Check.due("append 1", 20,
                () -> p.append(1650811245, 540618800, 540618800, 996304236, 1814049072));
        Check.due("append 2", 40,
                () -> p.append(807416352, 943415909, 1819025457, 808460338, 540556145));
        Check.due("append 3", 60, () -> p.append(1969841524, 540024886, 809172992, 0, 0));
        Check.due("truncate(50)", 50, () -> p.truncate(50));
        Check.due("load()", 2, p::load);
        Check.due("hang(0, 0, 2)", 1, () -> p.hang(0, 0, 2));
        Check.due("bestPosition(1, 0)", 98, () -> p.bestPosition(1, 0));
        Check.due("hang(1, 0, -2)", 2, () -> p.hang(1, 0, -2));
        Check.due("mirroredBells(0)", 0, () -> p.mirroredBells(0));
        Check.due("setPlan(0, 0, 6)", 1, () -> p.setPlan(0, 0, 6));
        Check.due("stepsToPlan()", 2, p::stepsToPlan);
    }
}

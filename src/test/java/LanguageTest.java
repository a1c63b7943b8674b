import java.io.IOException;
import java.nio.file.Files;
import java.nio.file.Path;
import java.util.List;
import java.util.regex.Matcher;
import java.util.regex.Pattern;

/** The rules of LANGUAGE.md that show in the text of the source; run in the project's folder. */
public final class LanguageTest {
    private static final Path SOURCE = Path.of("src/main/java/BellTowerPlanner.java");

    private static final String[] FORBIDDEN = {
        "\\bpackage\\b", "->", "::", "\\bcatch\\b", "\\bfinally\\b", "\\bsynchronized\\b",
        "\\bassert\\b", "\\bstatic\\s*\\{", "\\bObject\\b", "\\bhashCode\\b", "\\btoString\\b",
        "\\bprotected\\b", "\\bthrow (?!new (IllegalState|IllegalArgument|NoSuchElement)Exception"
            + "\\(\"[^\"]*\"\\);)", "\\bRandom\\b", "\\bThread\\b", "\"\\s*\\+", "\\+\\s*\"",
        "\\bnew int\\[(?!(MAX_\\w+|\\w+S|3)\\])", "\\bwhile \\(true\\)", "\\bfor \\(;"
    };

    private static final String LIBRARY =
            "Math\\.(abs|min|max)\\(|Integer\\.bitCount\\(|System\\.arraycopy\\(";

    private static final int MAX_DEPTH = 8;

    private LanguageTest() {
    }

    public static void main(String[] args) throws IOException {
        List<String> lines = Files.readAllLines(SOURCE);
        String code = withoutComments(String.join("\n", lines));
        for (String pattern : FORBIDDEN) {
            Check.same("places of " + pattern, 0, count(pattern, code));
        }
        Check.same("imports", 1, count("\\bimport\\b", code));
        Check.same("the one import", 1, count("import java\\.util\\.NoSuchElementException;", code));
        Check.same("calls of the library but for " + LIBRARY, count(LIBRARY, code),
                count("\\b(Math|Integer|Long|System|Arrays|String|Character|List)\\.", code));
        Check.same("more than 12 classes", 0, count("\\bclass ", code) > 12 ? 1 : 0);
        Check.same("signs above 127", 0, count("[^\\x00-\\x7f]", code));
        lengths(lines);
        depths(new CallDepth(lines));
        Check.finish();
    }

    private static void depths(CallDepth source) {
        for (String name : source.names()) {
            int depth = source.depthOf(name);
            Check.same(name + "() is open more than eight deep, or twice: " + depth, 0,
                    depth > MAX_DEPTH ? 1 : 0);
        }
        Check.same("fewer methods called than the face has", 0, source.methods() < 48 ? 1 : 0);
        Check.same("constructors that call or throw: " + source.busyConstructors(), 0,
                source.busyConstructors().size());
    }

    private static String withoutComments(String source) {
        return source.replaceAll("(?s)/\\*.*?\\*/", "").replaceAll("//[^\n]*", "");
    }

    private static int count(String pattern, String code) {
        Matcher matcher = Pattern.compile(pattern).matcher(code);
        int count = 0;
        while (matcher.find()) {
            count++;
        }
        return count;
    }

    /** A method ends with a brace that stands as deep as its first line. */
    private static void lengths(List<String> lines) {
        Pattern head = Pattern.compile(
                "^(    |        )(?!return)((public|private|static) )*[\\w\\[\\]]+ \\w+\\([^;]*");
        int methods = 0;
        for (int i = 0; i < lines.size(); i++) {
            Matcher matcher = head.matcher(lines.get(i));
            if (matcher.matches()) {
                methods++;
                int end = i;
                while (end < lines.size() && !lines.get(end).equals(matcher.group(1) + "}")) {
                    end++;
                }
                Check.same("more than 60 lines from " + (i + 1), 0, end - i > 60 ? 1 : 0);
            }
        }
        Check.same("fewer methods found than the face has", 0, methods < 48 ? 1 : 0);
    }
}

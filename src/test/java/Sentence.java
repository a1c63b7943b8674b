import java.io.IOException;
import java.nio.file.Files;
import java.nio.file.Path;
import java.util.ArrayList;
import java.util.LinkedHashMap;
import java.util.List;
import java.util.Map;
import java.util.regex.Matcher;
import java.util.regex.Pattern;

/**
 * The sentences of the document. Each test of an edge begins with the words that it is for: they
 * must stand in the section that it names, answers must be checked for them, and in the end every
 * sentence must have had its words quoted.
 */
final class Sentence {
    private static final Path DOCUMENT = Path.of("../shared/DOC.md");
    private static final Pattern PROMISE = Pattern.compile("## (Promise \\d+):.*");
    private static final Pattern RULE = Pattern.compile("(\\d)\\. [A-Z ]+");
    private static final Pattern END_OF_RULES = Pattern.compile("Examples \\(.*");
    private static final String END_OF_SENTENCE = "(?<=[a-zA-Z0-9)][.;]) |(?<=\\.\\)) ";

    /** FaceTest and ExamplesTest are for the first three; the last one promises nothing. */
    private static final List<String> TESTED_ELSEWHERE =
            List.of("", "The public face", "Examples", "Not promised");

    private static final Map<String, List<String>> LINES = new LinkedHashMap<>();
    private static final Map<String, List<String>> QUOTES = new LinkedHashMap<>();

    private static String latest = "";
    private static int callsBefore = 0;

    private Sentence() {
    }

    static void readDocument() throws IOException {
        String section = "";
        for (String line : Files.readAllLines(DOCUMENT)) {
            Matcher promise = PROMISE.matcher(line);
            Matcher rule = RULE.matcher(line);
            if (promise.matches()) {
                section = promise.group(1);
            } else if (rule.matches()) {
                section = "Rule " + rule.group(1);
            } else if (line.startsWith("## ")) {
                section = line.substring(3);
            } else if (END_OF_RULES.matcher(line).matches()) {
                section = "Examples";
            } else if (line.equals("The constants:")) {
                section = "Constants";
            } else {
                LINES.computeIfAbsent(section, name -> new ArrayList<>()).add(plain(line));
            }
        }
    }

    private static String plain(String text) {
        return text.trim().replaceAll("\\s+", " ");
    }

    static void promise(int number, String... words) {
        quote("Promise " + number, words);
    }

    /** The numbered parts of the section "Description". */
    static void rule(int number, String... words) {
        quote("Rule " + number, words);
    }

    static void quote(String section, String... words) {
        endLatest();
        latest = section + ", \"" + words[0] + "\"";
        Check.setHeading(latest + ": ");
        callsBefore = Check.callsSoFar();
        for (String some : words) {
            if (!stands(section, plain(some))) {
                Check.same("\"" + some + "\" stands in the document", 1, 0);
            }
            QUOTES.computeIfAbsent(section, name -> new ArrayList<>()).add(plain(some));
        }
    }

    private static boolean stands(String section, String words) {
        for (String line : linesOf(section)) {
            if (line.contains(words)) {
                return true;
            }
        }
        return false;
    }

    private static void endLatest() {
        if (!latest.isEmpty() && Check.callsSoFar() == callsBefore) {
            Check.same("number of answers that are checked is not 0", 1, 0);
        }
    }

    static void finish() {
        endLatest();
        int sentences = 0;
        for (String section : LINES.keySet()) {
            if (!TESTED_ELSEWHERE.contains(section)) {
                Check.setHeading(section + ": ");
                sentences += finishSection(section);
            }
        }
        Check.setHeading("");
        System.out.println(sentences + " sentences of the document have tests of their own");
    }

    private static int finishSection(String section) {
        int sentences = 0;
        for (String line : LINES.get(section)) {
            if (line.isEmpty() || line.startsWith("`") || line.startsWith("----")) {
                continue;
            }
            for (String part : line.split(END_OF_SENTENCE)) {
                Check.same("a test of \"" + part + "\"", 1, isQuoted(section, part) ? 1 : 0);
                sentences++;
            }
        }
        return sentences;
    }

    static List<String> linesOf(String section) {
        return LINES.getOrDefault(section, List.of());
    }

    private static boolean isQuoted(String section, String part) {
        String words = part.replaceAll("[.;]+$", "");
        for (String quote : QUOTES.getOrDefault(section, List.of())) {
            if (quote.contains(words) || part.contains(quote)) {
                return true;
            }
        }
        return false;
    }
}

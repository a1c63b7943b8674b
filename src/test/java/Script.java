import java.util.regex.Matcher;
import java.util.regex.Pattern;

/** Calls and answers as a text writes them: "hang(0, 0, 4)", and "1" or "throws X". */
final class Script {
    private static final Pattern CALL = Pattern.compile("(\\w+)\\(([-\\d, ]*)\\)");
    private static final String THROWS = "throws ";

    private Script() {
    }

    static void due(Trial trial, String call, String answer) {
        Matcher matcher = CALL.matcher(call);
        if (!matcher.matches()) {
            Check.same(call + " is a call", 1, 0);
            return;
        }
        trial.due(numberOf(answer), matcher.group(1), numbers(matcher.group(2)));
    }

    static int[] numbers(String list) {
        String[] parts = list.isBlank() ? new String[0] : list.trim().split(",\\s*");
        int[] numbers = new int[parts.length];
        for (int i = 0; i < parts.length; i++) {
            numbers[i] = Integer.parseInt(parts[i]);
        }
        return numbers;
    }

    /** As Trial answers: a boolean counts 1 or 0, and each exception has its number. */
    private static int numberOf(String answer) {
        switch (answer) {
            case "true":
                return 1;
            case "false":
                return 0;
            case THROWS + "IllegalStateException":
                return Trial.STATE;
            case THROWS + "IllegalArgumentException":
                return Trial.ARGUMENT;
            case THROWS + "NoSuchElementException":
                return Trial.NO_ELEMENT;
            default:
                return Integer.parseInt(answer);
        }
    }
}

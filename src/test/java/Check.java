import java.util.function.IntSupplier;

/** What all tests share: a tally of wrong answers, and calls whose exceptions become numbers. */
final class Check {
    static final int STATE = 1000001;
    static final int ARGUMENT = 1000002;
    static final int NO_ELEMENT = 1000003;

    private static int calls = 0;
    private static int wrong = 0;
    private static String heading = "";

    private Check() {
    }

    /** The answer of a call, or the number of the exception that it throws. */
    static int answer(IntSupplier call) {
        try {
            return call.getAsInt();
        } catch (RuntimeException e) {
            return numberOf(e);
        }
    }

    static int numberOf(RuntimeException e) {
        if (e.getClass() == IllegalStateException.class) {
            return STATE;
        }
        if (e.getClass() == IllegalArgumentException.class) {
            return ARGUMENT;
        }
        if (e.getClass() == java.util.NoSuchElementException.class) {
            return NO_ELEMENT;
        }
        throw e;
    }

    static void due(String call, int due, IntSupplier made) {
        same(call, due, answer(made));
    }

    static void same(String call, int due, int got) {
        calls++;
        if (got != due) {
            wrong++;
            System.out.println(heading + call + " answered " + shown(got) + ", due is " + shown(due));
        }
    }

    private static String shown(int answer) {
        switch (answer) {
            case STATE:
                return "throws.IllegalStateException";
            case ARGUMENT:
                return "throws.IllegalArgumentException";
            case NO_ELEMENT:
                return "throws.NoSuchElementException";
            default:
                return String.valueOf(answer);
        }
    }

    static void finish() {
        System.out.println(calls + " answers checked, " + wrong + " of them wrong");
        if (wrong > 0 || calls == 0) {
            System.exit(1);
        }
    }

    static int wrongSoFar() {
        return wrong;
    }

    static int callsSoFar() {
        return calls;
    }

    /** Stands before each wrong answer that is shown from now on. */
    static void setHeading(String text) {
        heading = text;
    }

    /** Puts a text into the empty buffer of a planner. */
    static void write(BellTowerPlanner planner, String text) {
        int padded = (text.length() + 19) / 20 * 20;
        for (int at = 0; at < padded; at += 20) {
            planner.append(word(text, at), word(text, at + 4), word(text, at + 8),
                    word(text, at + 12), word(text, at + 16));
        }
        planner.truncate(text.length());
    }

    private static int word(String text, int at) {
        int word = 0;
        for (int i = at; i < at + 4; i++) {
            word = word << 8 | (i < text.length() ? text.charAt(i) & 255 : 0);
        }
        return word;
    }

    static BellTowerPlanner tower(String text) {
        BellTowerPlanner planner = new BellTowerPlanner();
        write(planner, text);
        if (planner.load() < 0) {
            throw new IllegalStateException("the test's own text is wrong: " + text);
        }
        return planner;
    }
}

import java.util.Arrays;
import java.util.List;
import java.util.regex.Matcher;
import java.util.regex.Pattern;

/**
 * The ranges of all arguments of promises 6 to 49, taken from the words of the document, and the
 * exceptions that these methods share.
 */
final class EdgesOfArguments {
    private static final int MIN = Integer.MIN_VALUE;
    private static final int MAX = Integer.MAX_VALUE;

    private static final String BELL = "- `bell`: number of a bell";
    private static final String OTHER = "- `other`: number of a bell";
    private static final String BEAM = "- `beam`: number of a beam";
    private static final String POSITION = "- `position`: -15 to 15";
    private static final String TICK = "- `tick`: 0 to 9999";
    private static final String AMPLITUDE = "- `amplitude`: 1 to 15";
    private static final String MINUTE = "- `minute`: 0 to 1439";

    private static final Pattern RANGE = Pattern.compile("(-?\\d+) to (\\d+)");

    private record Method(int promise, String name, String... arguments) {
    }

    private static final Method[] METHODS = {
        new Method(6, "hang", BELL, BEAM, POSITION),
        new Method(7, "takeDown", BELL),
        new Method(8, "shift", BELL, POSITION),
        new Method(9, "beamOf", BELL),
        new Method(10, "positionOf", BELL),
        new Method(11, "torque", BEAM),
        new Method(12, "bellAt", BEAM, "- `place`: 0 for the bell with the least position, 1 for the "
            + "next one, and so on; 0 or more"),
        new Method(13, "freePositions", BELL, BEAM),
        new Method(14, "bestPosition", BELL, BEAM),
        new Method(15, "mirroredTorque", BEAM),
        new Method(16, "mirroredBells", BEAM),
        new Method(17, "setPlan", BELL, BEAM, POSITION),
        new Method(18, "clearPlan", BELL),
        new Method(19, "planConflicts"),
        new Method(20, "planUnbalanced"),
        new Method(21, "stepsToPlan"),
        new Method(22, "planStep", "- `index`: 0 for the first step, 1 for the second one, and so "
            + "on; 0 or more"),
        new Method(23, "startSwing", BELL, "- `tick`: the start tick, 0 to 999", AMPLITUDE),
        new Method(24, "stopSwing", BELL),
        new Method(25, "offset", BELL, TICK),
        new Method(26, "gap", BELL, "- `other`: number of another bell (the same one is out of range)",
            TICK),
        new Method(27, "firstCollision"),
        new Method(28, "collidingBells"),
        new Method(29, "safeStart", BELL, AMPLITUDE),
        new Method(30, "safeAmplitude", BELL),
        new Method(31, "strikes", BELL, "- `from`: first tick, 0 to 9999",
            "- `to`: last tick, from to 9999"),
        new Method(32, "strikeTogether", BELL, OTHER),
        new Method(33, "setChime", BELL, "- `first`: the first minute, 0 to 1439",
            "- `interval`: 1 to 1440"),
        new Method(34, "clearChime", BELL),
        new Method(35, "isQuiet", MINUTE),
        new Method(36, "quietMinutes"),
        new Method(37, "longestLoud"),
        new Method(38, "soundsAt", MINUTE),
        new Method(39, "soundsPerDay", BELL),
        new Method(40, "nextSound", MINUTE),
        new Method(41, "busiestMinute"),
        new Method(42, "soundTogether", BELL, OTHER),
        new Method(43, "leastDelay", BELL),
        new Method(44, "ropeLength", BELL),
        new Method(45, "fewestPieces"),
        new Method(46, "pieceOf", BELL),
        new Method(47, "waste"),
        new Method(48, "extraPiece"),
        new Method(49, "undo")
    };

    private EdgesOfArguments() {
    }

    static void check() {
        for (Method method : METHODS) {
            withoutTower(method);
            for (int i = 0; i < method.arguments.length; i++) {
                Sentence.promise(method.promise, method.arguments[i]);
                for (int kind = 0; kind < 4; kind++) {
                    range(method, i, kind);
                }
            }
            if (method.arguments.length > 0) {
                outOfRange(method);
            }
        }
        actionsAndQueries();
    }

    /** How many beams and bells the tower of a kind has; in kinds 2 and 3 all bells are busy. */
    private static int count(int kind, boolean ofBells) {
        return kind % 2 == 0 ? ofBells ? 2 : 1 : ofBells ? 8 : 4;
    }

    private static Trial tower(int kind) {
        int bells = count(kind, true);
        Trial t = Trial.of("beam 300 50000;".repeat(count(kind, false)) + "bell 10 2 4;".repeat(bells)
                + "quiet 5 6;" + "rope 9999;");
        for (int bell = 0; bell < bells && kind >= 2; bell++) {
            t.with("hang", bell, 0, 4 * bell - 14).with("setPlan", bell, 0, 4 * bell - 14);
            t.with("startSwing", bell, 0, 1).with("setChime", bell, bell, 60);
        }
        return t;
    }

    private static int[] rangeOf(String words, int kind) {
        Matcher matcher = RANGE.matcher(words);
        if (matcher.find()) {
            return new int[] {Integer.parseInt(matcher.group(1)), Integer.parseInt(matcher.group(2))};
        }
        if (words.contains("0 or more")) {
            return new int[] {0, MAX};
        }
        if (words.contains("from to 9999")) {
            return new int[] {0, 9999};
        }
        return new int[] {0, count(kind, words.contains("bell")) - 1};
    }

    /** Arguments in their ranges, with which those of the same call can be changed one by one. */
    private static int[] rightArguments(Method method, int kind) {
        int[] arguments = new int[method.arguments.length];
        for (int i = 0; i < arguments.length; i++) {
            int[] range = rangeOf(method.arguments[i], kind);
            boolean last = method.arguments[i].contains("`to`");
            boolean second = method.arguments[i].contains("`other`");
            arguments[i] = last ? range[1] : second ? 1 : range[0];
        }
        return arguments;
    }

    private static void range(Method method, int index, int kind) {
        Trial t = tower(kind);
        int[] range = rangeOf(method.arguments[index], kind);
        int[] arguments = rightArguments(method, kind);
        for (int value : range) {
            arguments[index] = value;
            if (method.name.equals("gap") && index < 2) {
                arguments[1 - index] = value == 0 ? 1 : 0;
            }
            int answer = t.answer(method.name, arguments);
            Check.same(Trial.shown(method.name, arguments) + " is in its range", 0,
                    answer == Trial.ARGUMENT || answer == Trial.STATE ? 1 : 0);
        }
        int[] wrong = {range[0] - 1, range[1] == MAX ? MIN : range[1] + 1, MIN,
            range[1] == MAX ? MIN : MAX};
        for (int value : wrong) {
            arguments[index] = value;
            t.due(Trial.ARGUMENT, method.name, arguments);
        }
    }

    private static void withoutTower(Method method) {
        Sentence.promise(method.promise, "Throws `IllegalStateException` if there is no tower");
        Trial t = new Trial();
        int[] arguments = rightArguments(method, 3);
        t.due(Trial.STATE, method.name, arguments);
        int[] others = {MIN, -1, 16, MAX};
        for (int value : others) {
            Arrays.fill(arguments, value);
            t.due(Trial.STATE, method.name, arguments);
        }
        t.write("beam 300 0;");
        t.due(-11, "load");
        t.due(Trial.STATE, method.name, arguments);
        t.due(Trial.STATE, method.name, rightArguments(method, 3));
    }

    private static void outOfRange(Method method) {
        Sentence.promise(method.promise,
                "Throws `IllegalArgumentException` if an argument is out of its range");
        for (int kind = 0; kind < 4; kind++) {
            Trial t = tower(kind);
            String before = t.state();
            int[] arguments = rightArguments(method, kind);
            for (int index = 0; index < arguments.length; index++) {
                int right = arguments[index];
                arguments[index] = -16;
                t.due(Trial.ARGUMENT, method.name, arguments);
                arguments[index] = right;
            }
            Arrays.fill(arguments, -99);
            t.due(Trial.ARGUMENT, method.name, arguments);
            t.sameState(method.name + "() with arguments out of range", before);
        }
    }

    private static boolean isAction(Method method) {
        return List.of("hang", "takeDown", "shift", "setPlan", "clearPlan", "startSwing",
                "stopSwing", "setChime", "clearChime").contains(method.name);
    }

    private static void actionsAndQueries() {
        Sentence.rule(8, "All methods except append(), truncate(), load() and errorPosition() throw "
                + "IllegalStateException if no tower text was loaded (checked first), and those "
                + "with parameters throw IllegalArgumentException if an argument is out of its "
                + "range (checked next).");
        for (Method method : METHODS) {
            int[] wrong = new int[method.arguments.length];
            Arrays.fill(wrong, -77);
            new Trial().due(Trial.STATE, method.name, wrong);
            if (wrong.length > 0) {
                tower(0).due(Trial.ARGUMENT, method.name, wrong);
                tower(3).due(Trial.ARGUMENT, method.name, wrong);
            }
        }
        Sentence.rule(8, "All methods except the actions, append(), truncate(), load() and undo() "
                + "change nothing.");
        for (Method method : METHODS) {
            if (!isAction(method) && !method.name.equals("undo")) {
                changesNothing(method);
            }
        }
    }

    private static void changesNothing(Method method) {
        for (int kind = 0; kind < 4; kind++) {
            Trial t = tower(kind);
            t.with("setChime", 1, 3, 700).with("append", 1, 2, 3, 4, 5);
            String before = t.state();
            int[] arguments = rightArguments(method, kind);
            t.answer(method.name, arguments);
            for (int i = 0; i < arguments.length; i++) {
                arguments[i] = rangeOf(method.arguments[i], kind)[1];
            }
            t.answer(method.name, arguments);
            t.sameState(method.name + "()", before);
            t.due(Trial.ARGUMENT, "truncate", 21);
            t.due(20, "truncate", 20);
            t.due(kind < 2 ? 0 : kind == 2 ? 8 : 11, "undo");
            t.due(-1, "errorPosition");
        }
    }
}

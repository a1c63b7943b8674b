import java.lang.reflect.Method;
import java.lang.reflect.Modifier;
import java.util.Set;
import java.util.TreeSet;
import java.util.regex.Matcher;
import java.util.regex.Pattern;

/** The sentences on the planner as a whole, that stand outside of the rules and promises. */
final class EdgesOfWhole {
    private static final String TOWER = "beam 300 500;bell 100 2 8;bell 100 2 8;quiet 60 120;"
            + "rope 800;rope 400;rope 400;";
    private static final Pattern SIGNATURE = Pattern.compile("`(?:\\w+ )?(\\w+)\\(.*");
    private static final int PROMISES = 49;
    private static final int CALLS = 512;

    private EdgesOfWhole() {
    }

    static void check() {
        purpose();
        laterCalls();
        towerText();
        actions();
        queries();
        constants();
        promises();
    }

    private static void purpose() {
        Sentence.quote("What it is", "A planner for a bell tower: bells hang on beams that must stay "
                + "balanced, they swing without touching each other, they chime except in quiet "
                + "hours, and their ropes are cut from a stock of pieces.");
        Trial t = Trial.of(TOWER);
        t.due(1, "hang", 0, 0, 5);
        t.due(-4, "hang", 1, 0, 1);
        t.due(2, "hang", 1, 0, -5);
        t.due(-4, "shift", 0, 11);
        t.due(1, "startSwing", 0, 0, 9);
        t.due(6, "firstCollision");
        t.due(6, "safeAmplitude", 0);
        t.due(1, "startSwing", 0, 0, 6);
        t.due(-2, "firstCollision");
        t.due(24, "setChime", 0, 0, 60);
        t.due(1, "soundsAt", 0);
        t.due(0, "soundsAt", 60);
        t.due(1, "soundsAt", 120);
        t.due(23, "soundsPerDay", 0);
        t.due(400, "ropeLength", 0);
        t.due(400, "ropeLength", 1);
        t.due(1, "fewestPieces");
        t.due(0, "pieceOf", 1);
    }

    /** Trial fails at an exception that the document does not name, so here any answer is right. */
    private static void laterCalls() {
        Sentence.quote("What it is", "what later calls answer is free");
        Trial t = Trial.of(TOWER);
        t.with("hang", 0, 0, 5);
        for (int i = 0; i < CALLS; i++) {
            t.answer("soundsAt", i);
        }
        int answered = 0;
        for (int i = 0; i < CALLS; i++) {
            t.answer("append", i, i, i, i, i);
            t.answer("setChime", 0, i, 1);
            t.answer("shift", 0, i % 40 - 20);
            t.answer("stepsToPlan");
            answered++;
        }
        Check.same("later calls that were answered", CALLS, answered);
    }

    private static void towerText() {
        Sentence.quote("Description",
                "A tower text describes beams, bells, quiet hours and rope pieces.");
        Trial t = Trial.of(TOWER);
        t.due(0, "torque", 0);
        t.due(Trial.ARGUMENT, "torque", 1);
        t.due(-2, "beamOf", 1);
        t.due(Trial.ARGUMENT, "beamOf", 2);
        t.due(60, "quietMinutes");
        t.due(0, "isQuiet", 59);
        t.due(1, "isQuiet", 60);
        t.with("hang", 1, 0, 0);
        t.due(0, "pieceOf", 1);
        t.due(800 - 350, "waste");
    }

    private static void actions() {
        Sentence.quote("Description", "Bells are hung, shifted and taken down.");
        Trial t = Trial.of(TOWER);
        t.due(1, "hang", 0, 0, 3);
        t.due(3, "positionOf", 0);
        t.due(103, "shift", 0, -2);
        t.due(-2, "positionOf", 0);
        t.due(0, "takeDown", 0);
        t.due(Trial.NO_ELEMENT, "positionOf", 0);
    }

    private static void queries() {
        Sentence.quote("Description", "Queries find positions and mirrored arrangements with little "
                + "torque, the shortest safe sequence of steps to a planned arrangement, collisions "
                + "of swinging bells, chimes in the course of a day, and the cutting of ropes.");
        Trial t = Trial.of("beam 300 5000;bell 100 2 8;bell 200 2 8;quiet 60 120;rope 400;rope 800;");
        t.with("hang", 0, 0, 4);
        t.due(98, "bestPosition", 1, 0);
        t.with("hang", 1, 0, 10);
        t.due(1600, "mirroredTorque", 0);
        t.due(1, "mirroredBells", 0);
        t.with("setPlan", 0, 0, 10).with("setPlan", 1, 0, 4);
        t.due(4, "stepsToPlan");
        t.due(0, "planStep", 0);
        t.due(3, "planStep", 1);
        t.due(2, "planStep", 2);
        t.due(5, "planStep", 3);
        t.due(-3, "planStep", 4);
        t.with("startSwing", 0, 0, 3);
        t.due(2, "firstCollision");
        t.due(1, "collidingBells");
        t.with("setChime", 1, 61, 61);
        t.due(122, "nextSound", 0);
        t.due(2, "fewestPieces");
        t.due(0, "pieceOf", 0);
        t.due(1, "pieceOf", 1);
        t.due(400 + 800 - 390 - 450, "waste");
    }

    private static void constants() {
        Sentence.quote("Constants",
                "- `NONE = -1`: Returned by errorPosition() if there is no error.");
        Check.same("NONE", -1, BellTowerPlanner.NONE);
        Trial t = new Trial();
        t.due(BellTowerPlanner.NONE, "errorPosition");
        t.due(-11, "load");
        t.due(0, "errorPosition");
        t.write(TOWER);
        t.due(2, "load");
        t.due(BellTowerPlanner.NONE, "errorPosition");
    }

    private static void promises() {
        Sentence.quote("Constants", "The constructor and the methods follow, a promise each: the "
                + "signature, then what it does.");
        Set<String> names = new TreeSet<>();
        for (int promise = 1; promise <= PROMISES; promise++) {
            names.add(nameOf(promise));
        }
        Check.same("promises with names of their own", PROMISES, names.size());
        Check.same("a promise of the constructor", 1, names.remove("BellTowerPlanner") ? 1 : 0);
        for (Method method : BellTowerPlanner.class.getDeclaredMethods()) {
            if (Modifier.isPublic(method.getModifiers())) {
                Check.same("a promise of " + method, 1, names.remove(method.getName()) ? 1 : 0);
            }
        }
        Check.same("promises without a method: " + names, 0, names.size());
    }

    /** The signature is the first line of a promise that is not empty. */
    private static String nameOf(int promise) {
        for (String line : Sentence.linesOf("Promise " + promise)) {
            Matcher matcher = SIGNATURE.matcher(line);
            if (!line.isEmpty()) {
                return matcher.matches() ? matcher.group(1) : "";
            }
        }
        return "";
    }
}

import java.lang.reflect.InvocationTargetException;
import java.lang.reflect.Method;
import java.util.Arrays;
import java.util.HashMap;
import java.util.Map;

/** A planner whose methods are called by name, so that a wrong answer is shown with its call. */
final class Trial {
    static final int STATE = Check.STATE;
    static final int ARGUMENT = Check.ARGUMENT;
    static final int NO_ELEMENT = Check.NO_ELEMENT;

    private static final Map<String, Method> METHODS = new HashMap<>();

    static {
        for (Method method : BellTowerPlanner.class.getMethods()) {
            if (method.getDeclaringClass() == BellTowerPlanner.class) {
                METHODS.put(method.getName(), method);
            }
        }
    }

    private final BellTowerPlanner planner = new BellTowerPlanner();

    static Trial of(String text) {
        Trial trial = new Trial();
        trial.write(text);
        if (trial.answer("load") < 0) {
            throw new IllegalStateException("the test's own text is wrong: " + text);
        }
        return trial;
    }

    /** Puts a text into the empty text buffer. */
    void write(String text) {
        Check.write(planner, text);
    }

    /** The answer of a call (a boolean counts 1 or 0), or the number of what it throws. */
    int answer(String name, int... arguments) {
        Method method = METHODS.get(name);
        try {
            Object answer = method.invoke(planner, Arrays.stream(arguments).boxed().toArray());
            return answer instanceof Boolean ? (Boolean) answer ? 1 : 0 : (Integer) answer;
        } catch (InvocationTargetException e) {
            if (e.getCause() instanceof RuntimeException) {
                return Check.numberOf((RuntimeException) e.getCause());
            }
            throw new IllegalStateException(e.getCause());
        } catch (IllegalAccessException e) {
            throw new IllegalStateException(e);
        }
    }

    void due(int due, String name, int... arguments) {
        Check.same(shown(name, arguments), due, answer(name, arguments));
    }

    /** For calls that only prepare: they must not fail, but what they answer is no matter here. */
    Trial with(String name, int... arguments) {
        int answer = answer(name, arguments);
        if (answer < 0 || answer > 1000000) {
            Check.same(shown(name, arguments) + " succeeds", 1, 0);
        }
        return this;
    }

    static String shown(String name, int... arguments) {
        String list = Arrays.toString(arguments);
        return name + "(" + list.substring(1, list.length() - 1) + ")";
    }

    /** All that queries tell of the tower; two states that differ show different texts. */
    String state() {
        StringBuilder text = new StringBuilder();
        for (int beam = 0; beam < 4; beam++) {
            add(text, "torque", beam);
            for (int place = 0; place < 8; place++) {
                add(text, "bellAt", beam, place);
            }
        }
        for (int bell = 0; bell < 8; bell++) {
            addBell(text, bell);
        }
        String[] others = {"planConflicts", "planUnbalanced", "stepsToPlan", "firstCollision",
            "collidingBells", "quietMinutes", "longestLoud", "busiestMinute", "fewestPieces",
            "waste", "extraPiece"};
        for (String name : others) {
            add(text, name);
        }
        for (int index = 0; index < 8; index++) {
            add(text, "planStep", index);
        }
        return text.toString();
    }

    private void addBell(StringBuilder text, int bell) {
        String[] names = {"beamOf", "positionOf", "safeAmplitude", "soundsPerDay", "leastDelay",
            "ropeLength", "pieceOf"};
        for (String name : names) {
            add(text, name, bell);
        }
        for (int tick = 0; tick < 30; tick++) {
            add(text, "offset", bell, tick);
        }
        add(text, "strikes", bell, 0, 999);
        add(text, "strikeTogether", bell, bell);
    }

    private void add(StringBuilder text, String name, int... arguments) {
        text.append(shown(name, arguments)).append(' ').append(answer(name, arguments)).append(' ');
    }

    void sameState(String after, String due) {
        Check.same("the state after " + after, 0, state().equals(due) ? 0 : 1);
    }
}

import java.util.ArrayList;
import java.util.List;

/** The sentences of rule 8 on actions, and of promise 49, each with its edges. */
final class EdgesOfActions {
    private static final String TOWER = "beam 300 500;beam 300 500;bell 100 2 8;bell 100 2 8;"
            + "bell 600 2 8;rope 9999;";

    private EdgesOfActions() {
    }

    static void check() {
        orderOfErrors();
        refusedCalls();
        eachAction();
        twelveActions();
        undo();
        undoKeepsText();
        undoneActions();
        manyCalls();
    }

    private static void orderOfErrors() {
        Sentence.rule(8, "Negative results -2, -3 and -4 are errors that the method lists; they are "
                + "checked in that order, behind the exceptions.");
        Trial t = Trial.of(TOWER);
        t.with("hang", 0, 0, 5);
        t.due(Trial.ARGUMENT, "hang", 0, 0, 16);
        t.due(-2, "hang", 0, 0, 5);
        t.due(-2, "hang", 0, 1, 6);
        t.due(-3, "hang", 2, 0, 5);
        t.due(-4, "hang", 2, 0, 9);
        t.due(Trial.ARGUMENT, "shift", 1, 16);
        t.due(-2, "shift", 1, 15);
        t.with("hang", 1, 0, 0);
        t.due(-3, "shift", 1, 2);
        t.due(-4, "shift", 1, 9);
        t.due(Trial.ARGUMENT, "takeDown", 3);
        t.due(-2, "takeDown", 2);
        t.due(Trial.ARGUMENT, "freePositions", 0, 2);
        t.due(Trial.ARGUMENT, "bestPosition", 0, 2);
        t.due(-2, "bestPosition", 0, 0);
        t.due(Trial.ARGUMENT, "startSwing", 2, 0, 0);
        t.due(-2, "startSwing", 2, 0, 1);
        t.due(Trial.ARGUMENT, "safeStart", 2, 0);
        t.due(-2, "safeStart", 2, 1);
        t.due(Trial.ARGUMENT, "offset", 2, -1);
        t.due(Trial.NO_ELEMENT, "offset", 2, 0);
        t.due(Trial.ARGUMENT, "gap", 2, 2, 0);
        t.due(Trial.NO_ELEMENT, "gap", 2, 1, 0);
        t.with("setPlan", 0, 0, 15);
        t.due(Trial.ARGUMENT, "planStep", -1);
        t.due(-2, "planStep", 999);
        Trial bare = Trial.of("beam 300 500;bell 100 2 8;bell 100 2 8;");
        bare.with("hang", 0, 0, 0);
        bare.due(-2, "pieceOf", 1);
        bare.due(-3, "pieceOf", 0);
    }

    private static void refusedCalls() {
        Sentence.rule(8, "A method that throws an exception or returns such an error changes nothing");
        Trial t = Trial.of(TOWER);
        t.with("hang", 0, 0, 5).with("startSwing", 0, 0, 3).with("setPlan", 0, 1, 1);
        t.with("setChime", 0, 4, 9);
        String before = t.state();
        t.due(-2, "hang", 0, 1, 0);
        t.due(-3, "hang", 1, 0, 4);
        t.due(-4, "hang", 1, 0, 1);
        t.due(-4, "hang", 2, 1, 1);
        t.due(Trial.ARGUMENT, "hang", 1, 0, 16);
        t.due(-2, "takeDown", 1);
        t.due(Trial.ARGUMENT, "takeDown", 3);
        t.due(-4, "shift", 0, 6);
        t.due(-2, "shift", 1, 6);
        t.due(Trial.ARGUMENT, "shift", 0, -16);
        t.due(Trial.ARGUMENT, "setPlan", 0, 2, 0);
        t.due(Trial.ARGUMENT, "setPlan", 0, 0, 16);
        t.due(-2, "clearPlan", 1);
        t.due(Trial.ARGUMENT, "startSwing", 0, 1000, 1);
        t.due(Trial.ARGUMENT, "startSwing", 0, 0, 16);
        t.due(-2, "startSwing", 1, 0, 1);
        t.due(-2, "stopSwing", 1);
        t.due(Trial.ARGUMENT, "setChime", 0, 0, 0);
        t.due(Trial.ARGUMENT, "setChime", 0, 1440, 1);
        t.due(-2, "clearChime", 1);
        t.sameState("calls that are refused", before);
        t.due(3, "undo");
        t.due(-2, "clearChime", 0);

        Trial full = Trial.of(TOWER);
        for (int i = 0; i < 12; i++) {
            full.with("setChime", 0, i, 1440);
        }
        full.due(-2, "clearChime", 1);
        full.due(-2, "shift", 0, 0);
        full.due(-4, "hang", 2, 0, 1);
        for (int left = 11; left >= 0; left--) {
            full.due(left, "undo");
        }
        full.due(-2, "undo");
        full.due(-2, "clearChime", 0);

        Sentence.rule(8, "except that load() always empties the text buffer");
        t.write("beam 300 0;bell 1 2 3;");
        t.due(-12, "load");
        t.due(Trial.ARGUMENT, "truncate", 1);
        t.due(16, "errorPosition");
    }

    /** Makes the action, undoes it, makes it again; the state must be as before in between. */
    private static void undone(Trial t, int left, int due, String name, int... arguments) {
        String before = t.state();
        t.due(due, name, arguments);
        t.due(left, "undo");
        t.sameState("undo() of " + Trial.shown(name, arguments), before);
        t.due(due, name, arguments);
    }

    private static void eachAction() {
        Sentence.rule(8, "hang, takeDown, shift, setPlan, clearPlan, startSwing, stopSwing, setChime "
                + "and clearChime are actions; each action that succeeds can be undone.");
        Trial t = Trial.of(TOWER);
        undone(t, 0, 1, "hang", 0, 0, 5);
        undone(t, 1, 105, "shift", 0, -4);
        undone(t, 2, 96, "shift", 0, -4);
        undone(t, 3, 1, "startSwing", 0, 3, 7);
        undone(t, 4, 1, "startSwing", 0, 0, 2);
        undone(t, 5, 0, "stopSwing", 0);
        undone(t, 6, 1, "startSwing", 0, 1, 15);
        undone(t, 7, 0, "takeDown", 0);
        t.write("beam 300 500;beam 300 500;bell 100 2 8;bell 100 2 8;");
        t.due(2, "load");
        undone(t, 0, 1, "setPlan", 0, 1, 3);
        undone(t, 1, 1, "setPlan", 0, 1, 3);
        undone(t, 2, 1, "setPlan", 0, 0, -6);
        undone(t, 3, 0, "clearPlan", 0);
        undone(t, 4, 144, "setChime", 1, 5, 10);
        undone(t, 5, 1440, "setChime", 1, 0, 1);
        undone(t, 6, 1440, "setChime", 1, 0, 1);
        undone(t, 7, 0, "clearChime", 1);
        t.with("truncate", 0);
        t.due(7, "undo");
        t.due(0, "soundsPerDay", 1);
    }

    private static void twelveActions() {
        Sentence.rule(8, "The latest 12 actions are remembered.");
        for (int actions = 11; actions <= 40; actions++) {
            Trial t = Trial.of(TOWER);
            List<String> states = new ArrayList<>();
            for (int i = 0; i < actions; i++) {
                states.add(t.state());
                t.with("setChime", i % 3, i, 1440);
            }
            int kept = Math.min(12, actions);
            for (int left = kept - 1; left >= 0; left--) {
                t.due(left, "undo");
                t.sameState("undo() with " + left + " left", states.get(actions - kept + left));
            }
            t.due(-2, "undo");
            t.sameState("undo() of nothing", states.get(actions - kept));
        }
    }

    private static void undo() {
        Sentence.promise(49, "Undoes the latest action that was not undone yet.",
                "Returns the number of actions that can still be undone");
        Trial t = Trial.of(TOWER);
        t.with("setChime", 0, 1, 1440).with("setChime", 1, 2, 1440).with("hang", 0, 0, 5);
        t.due(2, "undo");
        t.due(-2, "beamOf", 0);
        t.due(0, "leastDelay", 1);
        t.due(1, "undo");
        t.due(-2, "leastDelay", 1);
        t.due(0, "leastDelay", 0);
        t.with("hang", 1, 1, -5);
        t.due(1, "undo");
        t.due(-2, "beamOf", 1);
        t.due(0, "undo");
        t.due(-2, "leastDelay", 0);

        Sentence.promise(49, "-2 if there is no action to undo");
        t.due(-2, "undo");
        t.due(-2, "undo");
        Trial.of(TOWER).due(-2, "undo");
        t.with("hang", 1, 1, -5);
        t.due(0, "undo");
        t.due(-2, "undo");
        t.with("hang", 1, 1, -5).write(TOWER);
        t.due(3, "load");
        t.due(-2, "undo");
    }

    private static void undoKeepsText() {
        Sentence.promise(49, "Everything except the text buffer and errorPosition() is as before that "
                + "action.");
        Trial t = Trial.of(TOWER);
        t.with("hang", 0, 0, 4).with("hang", 1, 0, -1).with("startSwing", 0, 2, 8);
        t.with("setPlan", 0, 1, 2).with("setChime", 0, 7, 60);
        String before = t.state();
        t.with("takeDown", 0).write("beam 300 0;x");
        t.due(-11, "load");
        t.due(11, "errorPosition");
        t.with("append", 1, 2, 3, 4, 5);
        t.due(5, "undo");
        t.due(11, "errorPosition");
        t.due(Trial.ARGUMENT, "truncate", 21);
        t.due(20, "truncate", 20);
        t.sameState("undo() of takeDown()", before);
        t.due(8, "offset", 0, 4);
        t.due(4, "positionOf", 0);
        t.due(1, "startSwing", 0, 0, 1);
        t.due(2, "startSwing", 1, 0, 1);
    }

    private static void undoneActions() {
        Sentence.promise(49, "that was not undone yet");
        Trial t = Trial.of(TOWER);
        for (int i = 0; i < 12; i++) {
            t.with("setChime", 0, i, 1440);
        }
        t.due(11, "undo");
        t.due(10, "undo");
        t.with("hang", 0, 0, 0);
        t.due(10, "undo");
        t.due(-2, "beamOf", 0);
        t.with("hang", 0, 0, 1).with("hang", 1, 1, 1).with("shift", 1, 2);
        t.due(11, "undo");
        t.due(1, "positionOf", 1);
        t.due(10, "undo");
        t.due(9, "undo");
        t.with("hang", 0, 0, 0);
        t.due(9, "nextSound", 0);
        for (int left = 9; left >= 0; left--) {
            t.due(left, "undo");
        }
        t.due(-2, "undo");
        t.with("hang", 0, 0, 0);
        t.due(0, "nextSound", 0);
    }

    private static void manyCalls() {
        Sentence.quote("What it is", "An object is used for at most 512 calls after it has been made");
        Trial t = new Trial();
        t.write("beam 300 50000;beam 300 50000;" + "bell 10 2 4;".repeat(8) + "quiet 1 1440;"
                + "rope 490;".repeat(8));
        t.due(8, "load");
        for (int bell = 0; bell < 8; bell++) {
            t.due(bell + 1, "hang", bell, 0, 4 * bell - 14);
            t.due(bell + 1, "setPlan", bell, 1, 4 * bell - 14);
            t.due(bell + 1, "startSwing", bell, 0, 15);
            t.due(1, "setChime", bell, 0, 1440);
        }
        int calls = 11 + 1 + 1 + 32;
        while (calls + 10 <= 512) {
            t.due(16, "stepsToPlan");
            t.due(23, "planStep", 15);
            t.due(8, "fewestPieces");
            t.due(7, "pieceOf", 7);
            t.due(-2, "firstCollision");
            t.due(0, "safeStart", 3, 15);
            t.due(15, "safeAmplitude", 3);
            t.due(0, "busiestMinute");
            t.due(0, "mirroredBells", 0);
            t.due(1, "strikeTogether", 0, 7);
            calls += 10;
        }
        while (calls < 512) {
            t.due(255, "soundsAt", 0);
            calls++;
        }
    }
}

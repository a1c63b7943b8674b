import java.util.function.IntSupplier;

/** Promise 49: undo; and what section 8 tells of actions. */
public final class UndoTest {
    private static final String TOWER = "beam 300 500;beam 300 500;bell 100 2 8;bell 100 2 8;"
            + "rope 9999;";

    private UndoTest() {
    }

    public static void main(String[] args) {
        eachAction();
        inPlaceOfAnother();
        twelveActions();
        failures();
        queries();
        Check.finish();
    }

    /** The state of a planner, as its queries show it. */
    private static String shown(BellTowerPlanner p) {
        StringBuilder text = new StringBuilder();
        for (int bell = 0; bell < 2; bell++) {
            int b = bell;
            add(text, () -> p.beamOf(b));
            add(text, () -> p.positionOf(b));
            for (int tick = 0; tick < 20; tick++) {
                int t = tick;
                add(text, () -> p.offset(b, t));
            }
            add(text, () -> p.strikes(b, 0, 999));
            add(text, () -> p.soundsPerDay(b));
            add(text, () -> p.leastDelay(b));
            add(text, () -> p.ropeLength(b));
        }
        add(text, () -> p.nextSound(0));
        add(text, p::stepsToPlan);
        add(text, p::planUnbalanced);
        add(text, p::planConflicts);
        add(text, () -> p.planStep(0));
        add(text, () -> p.planStep(1));
        add(text, p::waste);
        return text.toString();
    }

    private static void add(StringBuilder text, IntSupplier call) {
        text.append(Check.answer(call)).append(' ');
    }

    private static void undone(String name, BellTowerPlanner p, int due, IntSupplier action) {
        String before = shown(p);
        Check.due(name, due, action);
        int again = p.undo();
        Check.same("state after undo() of " + name, 0, before.equals(shown(p)) ? 0 : 1);
        Check.due(name + " again", due, action);
        Check.due("undo() of it", again, p::undo);
        Check.due(name + " once more", due, action);
    }

    private static void eachAction() {
        BellTowerPlanner p = Check.tower(TOWER);
        Check.due("undo() of nothing", -2, p::undo);
        undone("hang", p, 1, () -> p.hang(0, 0, 5));
        undone("shift", p, 105, () -> p.shift(0, -4));
        undone("startSwing", p, 1, () -> p.startSwing(0, 3, 7));
        undone("setChime", p, 144, () -> p.setChime(0, 5, 10));
        undone("setPlan", p, 1, () -> p.setPlan(0, 1, 3));
        undone("clearPlan", p, 0, () -> p.clearPlan(0));
        undone("clearChime", p, 0, () -> p.clearChime(0));
        undone("stopSwing", p, 0, () -> p.stopSwing(0));
        undone("startSwing again", p, 1, () -> p.startSwing(0, 1, 2));
        undone("takeDown with its swing", p, 0, () -> p.takeDown(0));
        for (int left = 9; left >= 0; left--) {
            Check.due("undo() back to " + left, left, p::undo);
        }
        Check.due("undo() of nothing again", -2, p::undo);
        Check.due("nothing hangs", -2, () -> p.beamOf(0));
    }

    private static void inPlaceOfAnother() {
        BellTowerPlanner p = Check.tower(TOWER);
        p.hang(0, 0, 0);
        p.hang(1, 0, 5);
        p.startSwing(0, 3, 7);
        undone("startSwing in place of another", p, 1, () -> p.startSwing(0, 0, 1));
        p.setChime(1, 5, 10);
        undone("setChime in place of another", p, 1440, () -> p.setChime(1, 0, 1));
        p.setPlan(1, 0, 4);
        undone("setPlan in place of another", p, 1, () -> p.setPlan(1, 1, 0));
        undone("shift to the present position", p, 105, () -> p.shift(1, 5));
        undone("setPlan to the same place", p, 1, () -> p.setPlan(1, 1, 0));
    }

    private static void twelveActions() {
        BellTowerPlanner p = Check.tower(TOWER);
        p.hang(0, 0, 0);
        for (int i = 1; i <= 15; i++) {
            p.shift(0, i % 6);
        }
        for (int left = 11; left >= 0; left--) {
            Check.due("undo() to " + left, left, p::undo);
            int due = (left + 3) % 6;
            Check.due("position with " + left + " left", due, () -> p.positionOf(0));
        }
        Check.due("the 13th undo()", -2, p::undo);
        Check.due("positionOf(0)", 3, () -> p.positionOf(0));
        Check.due("shift(0, 1)", 103, () -> p.shift(0, 1));
        Check.due("undo() of it", 0, p::undo);
        Check.due("undo() of no more", -2, p::undo);
        afterUndo();
    }

    private static void afterUndo() {
        BellTowerPlanner p = Check.tower(TOWER);
        p.hang(0, 0, 0);
        for (int i = 1; i <= 12; i++) {
            p.setChime(0, i, 1440);
        }
        Check.due("11 left", 11, p::undo);
        Check.due("10 left", 10, p::undo);
        p.setChime(1, 100, 1440);
        Check.due("10 left of 11", 10, p::undo);
        Check.due("nextSound(0)", 10, () -> p.nextSound(0));
        p.setChime(1, 100, 1440);
        p.setChime(1, 101, 1440);
        p.setChime(1, 102, 1440);
        Check.due("11 left of 12", 11, p::undo);
        Check.due("10 left of 11 again", 10, p::undo);
        Check.due("9 left of 10", 9, p::undo);
        Check.due("8 left of 9", 8, p::undo);
        Check.due("nextSound(0) after it", 9, () -> p.nextSound(0));
    }

    private static void failures() {
        BellTowerPlanner p = Check.tower(TOWER);
        p.hang(0, 0, 5);
        String before = shown(p);
        Check.due("hang again", -2, () -> p.hang(0, 1, 0));
        Check.due("hang not clear", -3, () -> p.hang(1, 0, 4));
        Check.due("hang not balanced", -4, () -> p.hang(1, 0, 1));
        Check.due("hang out of range", Check.ARGUMENT, () -> p.hang(1, 0, 16));
        Check.due("takeDown of another", -2, () -> p.takeDown(1));
        Check.due("shift not balanced", -4, () -> p.shift(0, 6));
        Check.due("shift of another", -2, () -> p.shift(1, 6));
        Check.due("clearPlan", -2, () -> p.clearPlan(0));
        Check.due("setPlan out of range", Check.ARGUMENT, () -> p.setPlan(0, 2, 0));
        Check.due("startSwing", -2, () -> p.startSwing(1, 0, 1));
        Check.due("stopSwing", -2, () -> p.stopSwing(0));
        Check.due("clearChime", -2, () -> p.clearChime(0));
        Check.due("setChime out of range", Check.ARGUMENT, () -> p.setChime(0, 0, 0));
        Check.same("the failures changed nothing", 0, before.equals(shown(p)) ? 0 : 1);
        Check.due("undo() of hang alone", 0, p::undo);
        Check.due("bell 0 does not hang", -2, () -> p.beamOf(0));
    }

    private static void queries() {
        BellTowerPlanner p = Check.tower(TOWER);
        p.hang(0, 0, 0);
        p.hang(1, 0, 5);
        p.startSwing(0, 0, 4);
        p.setChime(0, 0, 60);
        p.setPlan(0, 1, 5);
        String before = shown(p);
        p.freePositions(0, 0);
        p.bestPosition(1, 1);
        p.mirroredTorque(0);
        p.mirroredBells(0);
        p.safeStart(0, 15);
        p.safeAmplitude(0);
        p.firstCollision();
        p.collidingBells();
        p.busiestMinute();
        p.leastDelay(0);
        p.extraPiece();
        p.append(1, 2, 3, 4, 5);
        p.truncate(3);
        Check.same("the queries changed nothing", 0, before.equals(shown(p)) ? 0 : 1);
        Check.due("undo() after queries", 4, p::undo);
        Check.due("the text buffer stays", 23, () -> p.append(0, 0, 0, 0, 0));
    }
}

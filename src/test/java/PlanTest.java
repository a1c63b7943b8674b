/** Promises 17 to 22: plans and the best way to their goal. */
public final class PlanTest {
    private static final String TOWER = "beam 300 500;beam 300 500;"
            + "bell 100 2 4;bell 100 2 4;bell 60 2 4;bell 100 3 4;";

    private PlanTest() {
    }

    public static void main(String[] args) {
        planning();
        conflicts();
        unbalanced();
        shortWays();
        orderOfSteps();
        exchanging();
        aside();
        goalNotReached();
        longWay();
        eightBells();
        Check.finish();
    }

    private static void way(String name, BellTowerPlanner p, int... steps) {
        Check.due(name + ": stepsToPlan()", steps.length, p::stepsToPlan);
        for (int i = 0; i < steps.length; i++) {
            int index = i;
            Check.due(name + ": planStep(" + i + ")", steps[i], () -> p.planStep(index));
        }
        Check.due(name + ": no more steps", -3, () -> p.planStep(steps.length));
        Check.due(name + ": far from it", -3, () -> p.planStep(Integer.MAX_VALUE));
    }

    private static void noWay(String name, BellTowerPlanner p) {
        Check.due(name + ": stepsToPlan()", -2, p::stepsToPlan);
        Check.due(name + ": planStep(0)", -2, () -> p.planStep(0));
        Check.due(name + ": planStep(99)", -2, () -> p.planStep(99));
    }

    private static void planning() {
        BellTowerPlanner p = Check.tower(TOWER);
        Check.due("clearPlan() without a plan", -2, () -> p.clearPlan(0));
        Check.due("the first plan", 1, () -> p.setPlan(0, 0, 15));
        Check.due("the second plan", 2, () -> p.setPlan(3, 1, -15));
        Check.due("in place of the first", 2, () -> p.setPlan(0, 1, -15));
        Check.due("planUnbalanced()", 2, p::planUnbalanced);
        Check.due("clearPlan(0)", 1, () -> p.clearPlan(0));
        Check.due("clearPlan(0) again", -2, () -> p.clearPlan(0));
        Check.due("clearPlan(3)", 0, () -> p.clearPlan(3));
        Check.due("a plan hangs no bell", -2, () -> p.beamOf(0));
    }

    private static void conflicts() {
        BellTowerPlanner p = Check.tower(TOWER);
        Check.due("without plans", 0, p::planConflicts);
        p.setPlan(0, 0, 1);
        p.setPlan(1, 0, 4);
        Check.due("3 apart", 1, p::planConflicts);
        p.setPlan(1, 0, 5);
        Check.due("4 apart", 0, p::planConflicts);
        p.setPlan(1, 1, 1);
        Check.due("on two beams", 0, p::planConflicts);
        p.hang(3, 0, 5);
        Check.due("with a bell that hangs, 4 apart", 1, p::planConflicts);
        p.setPlan(3, 0, 6);
        Check.due("5 apart by its plan", 0, p::planConflicts);
        p.setPlan(0, 0, 0);
        p.setPlan(1, 0, 0);
        p.setPlan(2, 0, 0);
        p.setPlan(3, 0, 1);
        Check.due("all at one place", 6, p::planConflicts);
        noWay("all at one place", p);
    }

    private static void unbalanced() {
        BellTowerPlanner p = Check.tower(TOWER);
        Check.due("without plans", 0, p::planUnbalanced);
        p.setPlan(0, 0, 5);
        Check.due("500", 0, p::planUnbalanced);
        p.setPlan(0, 0, 6);
        Check.due("600", 1, p::planUnbalanced);
        noWay("600", p);
        p.setPlan(1, 1, -6);
        Check.due("600 and -600", 3, p::planUnbalanced);
        p.hang(2, 0, -2);
        Check.due("480 and -600", 2, p::planUnbalanced);
        p.setPlan(2, 1, 2);
        Check.due("600 and -480", 1, p::planUnbalanced);
    }

    private static void shortWays() {
        BellTowerPlanner p = Check.tower(TOWER);
        way("no plan", p);
        p.setPlan(1, 0, 5);
        way("hang", p, 5);
        p.hang(1, 0, 5);
        way("the present place", p);
        p.shift(1, 4);
        way("down and up", p, 3, 5);
        p.setPlan(1, 1, 4);
        way("to the other beam", p, 3, 5);
        p.takeDown(1);
        p.clearPlan(1);
        way("a bell that does not hang, without a plan", p);
    }

    private static void orderOfSteps() {
        BellTowerPlanner p = Check.tower(TOWER);
        p.setPlan(1, 0, 4);
        p.setPlan(0, 1, 4);
        p.setPlan(2, 0, -4);
        way("by ascending codes", p, 2, 5, 8);
        p.setPlan(0, 0, 8);
        p.setPlan(1, 0, -2);
        p.setPlan(2, 1, 0);
        noWay("bell 0 is too heavy at 8", p);
        p.setPlan(0, 0, 6);
        way("bell 1 before bell 0", p, 5, 2, 8);
        p.clearPlan(1);
        p.clearPlan(2);
        p.setPlan(0, 1, 1);
        p.hang(2, 0, 0);
        p.hang(1, 0, 4);
        p.setPlan(1, 0, 5);
        way("bell 0 first", p, 2, 3, 5);
    }

    private static void exchanging() {
        BellTowerPlanner p = Check.tower(TOWER);
        p.hang(0, 0, 2);
        p.hang(1, 0, -2);
        p.setPlan(0, 0, -2);
        p.setPlan(1, 0, 2);
        way("two bells change places", p, 0, 3, 2, 5);
        p.clearPlan(1);
        noWay("only one of them", p);
        p.setPlan(1, 1, 0);
        way("one goes to the other beam", p, 0, 3, 2, 5);
        p.setPlan(0, 0, 3);
        p.clearPlan(1);
        way("one goes on", p, 0, 2);
    }

    private static void aside() {
        BellTowerPlanner p = Check.tower(TOWER);
        p.hang(0, 0, 5);
        p.hang(2, 0, -10);
        p.setPlan(0, 0, 4);
        way("a bell without a plan comes back", p, 6, 0, 2, 7);
        p.setPlan(2, 0, -10);
        way("a bell that is planned where it hangs", p, 6, 0, 2, 7);
        p.setPlan(2, 0, -11);
        way("a bell with another plan", p, 6, 0, 2, 8);
        p.clearPlan(0);
        way("its plan alone", p, 6, 8);
    }

    private static void goalNotReached() {
        BellTowerPlanner p = Check.tower("beam 300 500;bell 100 2 4;bell 100 2 4;");
        p.hang(0, 0, 5);
        p.hang(1, 0, -5);
        p.shift(0, 10);
        p.shift(1, -10);
        p.setPlan(0, 0, 15);
        Check.due("the goal has no conflicts", 0, p::planConflicts);
        Check.due("the goal is balanced", 0, p::planUnbalanced);
        noWay("neither bell can be taken down", p);
        Check.due("the queries changed nothing", 110, () -> p.shift(0, 10));
    }

    private static void eightBells() {
        BellTowerPlanner p = Check.tower("beam 300 50000;" + "bell 10 2 4;".repeat(8));
        for (int bell = 0; bell < 7; bell++) {
            p.hang(bell, 0, 4 * bell - 15);
        }
        way("no plan for eight", p);
        for (int bell = 0; bell < 8; bell++) {
            p.setPlan(bell, 0, 4 * bell - 14);
        }
        Check.due("bell 7 at 14", 0, p::planConflicts);
        way("each one on", p, 0, 3, 2, 6, 5, 9, 8, 12, 11, 15, 14, 18, 17, 20, 23);
    }

    /** Bell 1 fits only after bell 2 is down, and bell 0 only with bell 1 as its counterweight. */
    private static void longWay() {
        BellTowerPlanner p = Check.tower("beam 300 600;bell 100 2 4;bell 150 2 4;bell 50 2 4;");
        p.hang(2, 0, -6);
        p.hang(1, 0, -1);
        p.hang(0, 0, 8);
        p.setPlan(0, 0, 9);
        p.setPlan(1, 0, -4);
        p.setPlan(2, 0, -13);
        way("all three anew", p, 0, 3, 6, 5, 2, 8);
    }
}

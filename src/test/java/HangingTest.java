/** Promises 6 to 16: hanging, its queries and the mirrored arrangements. */
public final class HangingTest {
    private static final String TOWER =
            "beam 500 1500;beam 700 600;bell 100 2 8;bell 150 3 5;bell 50 2 4;bell 3000 10 40;";

    private HangingTest() {
    }

    public static void main(String[] args) {
        hanging();
        takingDown();
        shifting();
        asking();
        freePlaces();
        bestPlaces();
        mirroring();
        mirroringManyBells();
        mirroringNearBells();
        Check.finish();
    }

    private static void hanging() {
        BellTowerPlanner p = Check.tower(TOWER);
        Check.due("hang at the limit", 1, () -> p.hang(0, 0, 15));
        Check.due("hang again", -2, () -> p.hang(0, 1, 0));
        Check.due("hang again and not clear", -2, () -> p.hang(0, 0, 14));
        Check.due("beamOf(0)", 0, () -> p.beamOf(0));
        Check.due("not clear by one", -3, () -> p.hang(1, 0, 11));
        Check.due("not clear and not balanced", -3, () -> p.hang(3, 0, 15));
        Check.due("just clear, not balanced", -4, () -> p.hang(1, 0, 10));
        Check.due("balanced at 0", 2, () -> p.hang(1, 0, 0));
        Check.due("balanced below 0", 3, () -> p.hang(2, 0, -15));
        Check.due("torque(0)", 750, () -> p.torque(0));
        Check.due("another beam", 1, () -> p.hang(3, 1, 0));
        Check.due("beamOf(3)", 1, () -> p.beamOf(3));
        negativeLimit();
    }

    private static void negativeLimit() {
        BellTowerPlanner p = Check.tower(TOWER);
        Check.due("hang at the limit below 0", 1, () -> p.hang(0, 0, -15));
        Check.due("torque(0)", -1500, () -> p.torque(0));
        Check.due("hang over it", -4, () -> p.hang(2, 0, -1));
        Check.due("the failed call changed nothing", -2, () -> p.beamOf(2));
        Check.due("just clear", 2, () -> p.hang(1, 0, -10 + 10));
        Check.due("on a beam with 600", -4, () -> p.hang(2, 1, 13));
        Check.due("on it at its limit", 1, () -> p.hang(2, 1, 12));
        Check.due("bells on two beams may be close", 2, () -> p.beamOf(1) + 2);
    }

    private static void takingDown() {
        BellTowerPlanner p = Check.tower(TOWER);
        Check.due("a bell that does not hang", -2, () -> p.takeDown(0));
        p.hang(0, 0, 10);
        p.hang(1, 0, -10);
        p.hang(2, 0, -15);
        Check.due("torque(0)", -1250, () -> p.torque(0));
        Check.due("the counterweight", -4, () -> p.takeDown(0));
        Check.due("it hangs yet", 10, () -> p.positionOf(0));
        p.startSwing(2, 0, 3);
        Check.due("another bell", 2, () -> p.takeDown(2));
        Check.due("its swing is over", -2, () -> p.stopSwing(2));
        Check.due("hang it again", 3, () -> p.hang(2, 0, -15));
        Check.due("it does not swing", 0, () -> p.offset(2, 1));
        Check.due("down to 2", 2, () -> p.takeDown(2));
        Check.due("down to 1 at the limit", 1, () -> p.takeDown(0));
        Check.due("down to 0", 0, () -> p.takeDown(1));
        Check.due("twice", -2, () -> p.takeDown(1));
    }

    private static void shifting() {
        BellTowerPlanner p = Check.tower(TOWER);
        Check.due("a bell that does not hang", -2, () -> p.shift(0, 0));
        p.hang(0, 0, -3);
        Check.due("to the present position", 97, () -> p.shift(0, -3));
        Check.due("to the limit", 97, () -> p.shift(0, 15));
        Check.due("back", 115, () -> p.shift(0, 10));
        p.hang(1, 0, 0);
        Check.due("not clear", -3, () -> p.shift(1, 6));
        Check.due("not clear, and not balanced", -3, () -> p.shift(1, 10));
        Check.due("clear, but not balanced", -4, () -> p.shift(1, 5));
        Check.due("past the other bell", -4, () -> p.shift(1, 15));
        p.startSwing(1, 0, 4);
        Check.due("to the other side", 100, () -> p.shift(1, -15));
        Check.due("its swing stays", 3, () -> p.offset(1, 1));
        Check.due("positionOf(1)", -15, () -> p.positionOf(1));
        Check.due("beamOf(1)", 0, () -> p.beamOf(1));
    }

    private static void asking() {
        BellTowerPlanner p = Check.tower(TOWER);
        Check.due("beamOf() of a bell that does not hang", -2, () -> p.beamOf(3));
        Check.due("positionOf() of one", Check.NO_ELEMENT, () -> p.positionOf(3));
        Check.due("torque() of an empty beam", 0, () -> p.torque(1));
        Check.due("bellAt() of an empty beam", -2, () -> p.bellAt(1, 0));
        p.hang(2, 0, -5);
        p.hang(1, 0, 4);
        p.hang(0, 0, -1);
        p.hang(3, 1, 0);
        Check.due("torque(0)", 250, () -> p.torque(0));
        Check.due("bellAt(0, 0)", 2, () -> p.bellAt(0, 0));
        Check.due("bellAt(0, 1)", 0, () -> p.bellAt(0, 1));
        Check.due("bellAt(0, 2)", 1, () -> p.bellAt(0, 2));
        Check.due("bellAt(0, 3)", -2, () -> p.bellAt(0, 3));
        Check.due("bellAt(0, max)", -2, () -> p.bellAt(0, Integer.MAX_VALUE));
        Check.due("bellAt(1, 0)", 3, () -> p.bellAt(1, 0));
        Check.due("bellAt(1, 1)", -2, () -> p.bellAt(1, 1));
    }

    private static void freePlaces() {
        BellTowerPlanner p = Check.tower(TOWER);
        Check.due("all positions", 31, () -> p.freePositions(0, 0));
        Check.due("those within the limit", 13, () -> p.freePositions(0, 1));
        Check.due("one of a heavy bell", 1, () -> p.freePositions(3, 0));
        p.hang(0, 0, 0);
        Check.due("of a bell that hangs", -2, () -> p.freePositions(0, 1));
        Check.due("none of the heavy bell", 0, () -> p.freePositions(3, 0));
        Check.due("-10 to -5 and 5 to 10", 12, () -> p.freePositions(1, 0));
        Check.due("other than the bell's beam", 9, () -> p.freePositions(1, 1));
    }

    private static void bestPlaces() {
        BellTowerPlanner p = Check.tower(TOWER);
        Check.due("of an empty beam", 100, () -> p.bestPosition(0, 0));
        p.hang(0, 0, 0);
        Check.due("of a bell that hangs", -2, () -> p.bestPosition(0, 1));
        Check.due("the lesser of -5 and 5", 95, () -> p.bestPosition(1, 0));
        Check.due("no position", -3, () -> p.bestPosition(3, 0));
        p.shift(0, 7);
        Check.due("700 - 750 is nearer than 700 - 600", 95, () -> p.bestPosition(1, 0));
        p.shift(0, 15);
        Check.due("1500 - 1500", 90, () -> p.bestPosition(1, 0));
        Check.due("1500 - 750", 85, () -> p.bestPosition(2, 0));
        p.shift(0, -15);
        Check.due("-1500 + 750", 115, () -> p.bestPosition(2, 0));
        equalTorques();
    }

    private static void equalTorques() {
        BellTowerPlanner p = Check.tower("beam 300 9000;bell 100 2 4;bell 200 2 4;");
        p.hang(0, 0, 9);
        Check.due("900 - 800 before 900 - 1000", 95, () -> p.bestPosition(1, 0));
        p.shift(0, -9);
        Check.due("-900 + 800 before -900 + 1000", 104, () -> p.bestPosition(1, 0));
    }

    private static void mirroring() {
        BellTowerPlanner p = Check.tower("beam 300 9000;beam 300 0;bell 100 2 4;bell 200 2 4;"
                + "bell 300 2 4;bell 100 4 4;");
        Check.due("torque of an empty beam", 0, () -> p.mirroredTorque(0));
        Check.due("bells of an empty beam", 0, () -> p.mirroredBells(0));
        p.hang(0, 0, 6);
        Check.due("torque of one bell", 600, () -> p.mirroredTorque(0));
        Check.due("bells of one bell", 0, () -> p.mirroredBells(0));
        p.hang(1, 0, 10);
        Check.due("2000 - 600", 1400, () -> p.mirroredTorque(0));
        Check.due("the lesser mask", 1, () -> p.mirroredBells(0));
        p.hang(2, 0, -2);
        Check.due("torque(0)", 2000, () -> p.torque(0));
        Check.due("2000 - 600 - 600", 800, () -> p.mirroredTorque(0));
        Check.due("only bell 0", 1, () -> p.mirroredBells(0));
        p.shift(2, 0);
        p.shift(0, 4);
        p.shift(1, -4);
        Check.due("800 - 400", 400, () -> p.mirroredTorque(0));
        Check.due("none mirrored", 0, () -> p.mirroredBells(0));
        p.hang(3, 1, 0);
        Check.due("a bell at 0", 0, () -> p.mirroredBells(1));
    }

    private static void mirroringNearBells() {
        BellTowerPlanner p = Check.tower("beam 300 9000;bell 100 2 4;bell 100 2 4;bell 200 2 4;");
        p.hang(2, 0, -14);
        Check.due("one bell below 0", 2800, () -> p.mirroredTorque(0));
        Check.due("its torque", -2800, () -> p.torque(0));
        p.hang(0, 0, 4);
        p.hang(1, 0, -6);
        Check.due("2800 - 600 - 400 is not clear", 2600, () -> p.mirroredTorque(0));
        Check.due("bell 2 before bells 0 and 1", 4, () -> p.mirroredBells(0));
        p.shift(1, -8);
        Check.due("2800 - 800 - 400", 1600, () -> p.mirroredTorque(0));
        Check.due("bell 1, below 0", 2, () -> p.mirroredBells(0));
    }

    private static void mirroringManyBells() {
        BellTowerPlanner p = Check.tower("beam 300 9000;bell 100 2 4;bell 100 2 4;bell 100 2 4;"
                + "bell 300 2 4;");
        p.hang(0, 0, 4);
        p.hang(1, 0, 8);
        p.hang(2, 0, -6);
        p.hang(3, 0, 14);
        Check.due("bells 0 and 1 would not be clear of bell 2", 3600, () -> p.mirroredTorque(0));
        Check.due("bell 3 before bells 0, 1 and 2", 8, () -> p.mirroredBells(0));
        p.shift(2, -12);
        Check.due("4200 - 1200 - 400 - 800", 1800, () -> p.mirroredTorque(0));
        Check.due("bells 0 and 1 before bells 2 and 3", 3, () -> p.mirroredBells(0));
        p.shift(2, -13);
        p.takeDown(3);
        Check.due("400 + 800 - 1300", 100, () -> p.mirroredTorque(0));
        Check.due("none before all", 0, () -> p.mirroredBells(0));
    }
}

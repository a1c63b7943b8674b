import java.util.function.IntSupplier;

/** Which exception comes before which, and the ranges of all arguments. */
public final class RangeTest {
    private static final int MIN = Integer.MIN_VALUE;
    private static final int MAX = Integer.MAX_VALUE;

    private RangeTest() {
    }

    public static void main(String[] args) {
        withoutTower(new BellTowerPlanner());
        withoutTower(wrongText());
        bells();
        beams();
        positions();
        swingArguments();
        chimeArguments();
        argumentsBeforeResults();
        Check.finish();
    }

    private static BellTowerPlanner wrongText() {
        BellTowerPlanner p = new BellTowerPlanner();
        Check.write(p, "beam 300 0;");
        Check.due("load() of a beam alone", -11, p::load);
        return p;
    }

    private static void state(String call, IntSupplier made) {
        Check.due(call + " without a tower", Check.STATE, made);
    }

    private static void withoutTower(BellTowerPlanner p) {
        for (int x : new int[] {0, -99, 99999}) {
            state("hang", () -> p.hang(x, x, x));
            state("takeDown", () -> p.takeDown(x));
            state("shift", () -> p.shift(x, x));
            state("beamOf", () -> p.beamOf(x));
            state("positionOf", () -> p.positionOf(x));
            state("torque", () -> p.torque(x));
            state("bellAt", () -> p.bellAt(x, x));
            state("freePositions", () -> p.freePositions(x, x));
            state("bestPosition", () -> p.bestPosition(x, x));
            state("mirroredTorque", () -> p.mirroredTorque(x));
            state("mirroredBells", () -> p.mirroredBells(x));
            state("setPlan", () -> p.setPlan(x, x, x));
            state("clearPlan", () -> p.clearPlan(x));
            state("planStep", () -> p.planStep(x));
            state("startSwing", () -> p.startSwing(x, x, x));
            state("stopSwing", () -> p.stopSwing(x));
            state("offset", () -> p.offset(x, x));
            state("gap", () -> p.gap(x, x, x));
            state("safeStart", () -> p.safeStart(x, x));
            state("safeAmplitude", () -> p.safeAmplitude(x));
            state("strikes", () -> p.strikes(x, x, x));
            state("strikeTogether", () -> p.strikeTogether(x, x));
            state("setChime", () -> p.setChime(x, x, x));
            state("clearChime", () -> p.clearChime(x));
            state("isQuiet", () -> p.isQuiet(x) ? 1 : 0);
            state("soundsAt", () -> p.soundsAt(x));
            state("soundsPerDay", () -> p.soundsPerDay(x));
            state("nextSound", () -> p.nextSound(x));
            state("soundTogether", () -> p.soundTogether(x, x));
            state("leastDelay", () -> p.leastDelay(x));
            state("ropeLength", () -> p.ropeLength(x));
            state("pieceOf", () -> p.pieceOf(x));
        }
        withoutTowerAndArguments(p);
    }

    private static void withoutTowerAndArguments(BellTowerPlanner p) {
        state("planConflicts", p::planConflicts);
        state("planUnbalanced", p::planUnbalanced);
        state("stepsToPlan", p::stepsToPlan);
        state("firstCollision", p::firstCollision);
        state("collidingBells", p::collidingBells);
        state("quietMinutes", p::quietMinutes);
        state("longestLoud", p::longestLoud);
        state("busiestMinute", p::busiestMinute);
        state("fewestPieces", p::fewestPieces);
        state("waste", p::waste);
        state("extraPiece", p::extraPiece);
        state("undo", p::undo);
    }

    private static BellTowerPlanner tower() {
        return Check.tower("beam 300 50000;beam 300 50000;bell 10 2 4;bell 10 2 4;bell 10 2 4;"
                + "rope 9999;");
    }

    private static void wrong(String call, IntSupplier made) {
        Check.due(call + " out of range", Check.ARGUMENT, made);
    }

    private static void bells() {
        BellTowerPlanner p = tower();
        for (int x : new int[] {-1, 3, 8, -2, MIN, MAX}) {
            wrong("hang", () -> p.hang(x, 0, 0));
            wrong("takeDown", () -> p.takeDown(x));
            wrong("shift", () -> p.shift(x, 0));
            wrong("beamOf", () -> p.beamOf(x));
            wrong("positionOf", () -> p.positionOf(x));
            wrong("freePositions", () -> p.freePositions(x, 0));
            wrong("bestPosition", () -> p.bestPosition(x, 0));
            wrong("setPlan", () -> p.setPlan(x, 0, 0));
            wrong("clearPlan", () -> p.clearPlan(x));
            wrong("startSwing", () -> p.startSwing(x, 0, 1));
            wrong("stopSwing", () -> p.stopSwing(x));
            wrong("offset", () -> p.offset(x, 0));
            wrong("gap", () -> p.gap(x, 0, 0));
            wrong("gap, other", () -> p.gap(0, x, 0));
            wrong("safeStart", () -> p.safeStart(x, 1));
            wrong("safeAmplitude", () -> p.safeAmplitude(x));
            wrong("strikes", () -> p.strikes(x, 0, 0));
            wrong("strikeTogether", () -> p.strikeTogether(x, 0));
            wrong("strikeTogether, other", () -> p.strikeTogether(0, x));
            wrong("setChime", () -> p.setChime(x, 0, 1));
            wrong("clearChime", () -> p.clearChime(x));
            wrong("soundsPerDay", () -> p.soundsPerDay(x));
            wrong("soundTogether", () -> p.soundTogether(x, 0));
            wrong("soundTogether, other", () -> p.soundTogether(0, x));
            wrong("leastDelay", () -> p.leastDelay(x));
            wrong("ropeLength", () -> p.ropeLength(x));
            wrong("pieceOf", () -> p.pieceOf(x));
        }
        Check.due("the last bell", 1, () -> p.hang(2, 0, 0));
    }

    private static void beams() {
        BellTowerPlanner p = tower();
        for (int x : new int[] {-1, 2, 4, MIN, MAX}) {
            wrong("hang", () -> p.hang(0, x, 0));
            wrong("torque", () -> p.torque(x));
            wrong("bellAt", () -> p.bellAt(x, 0));
            wrong("freePositions", () -> p.freePositions(0, x));
            wrong("bestPosition", () -> p.bestPosition(0, x));
            wrong("mirroredTorque", () -> p.mirroredTorque(x));
            wrong("mirroredBells", () -> p.mirroredBells(x));
            wrong("setPlan", () -> p.setPlan(0, x, 0));
        }
        Check.due("the last beam", 1, () -> p.hang(0, 1, 0));
    }

    private static void positions() {
        BellTowerPlanner p = tower();
        for (int x : new int[] {-16, 16, MIN, MAX}) {
            wrong("hang", () -> p.hang(0, 0, x));
            wrong("shift", () -> p.shift(0, x));
            wrong("setPlan", () -> p.setPlan(0, 0, x));
        }
        for (int x : new int[] {-1, MIN}) {
            wrong("bellAt", () -> p.bellAt(0, x));
            wrong("planStep", () -> p.planStep(x));
        }
        Check.due("setPlan(0, 0, -15)", 1, () -> p.setPlan(0, 0, -15));
        Check.due("setPlan(0, 0, 15)", 1, () -> p.setPlan(0, 0, 15));
        Check.due("hang(1, 0, -15)", 1, () -> p.hang(1, 0, -15));
        Check.due("hang(0, 0, 15)", 2, () -> p.hang(0, 0, 15));
        Check.due("shift(0, 15)", 115, () -> p.shift(0, 15));
        Check.due("shift(1, -15)", 85, () -> p.shift(1, -15));
    }

    private static void swingArguments() {
        BellTowerPlanner p = tower();
        p.hang(0, 0, 0);
        for (int x : new int[] {-1, 1000, MIN, MAX}) {
            wrong("startSwing, tick", () -> p.startSwing(0, x, 1));
        }
        for (int x : new int[] {0, -1, 16, MIN, MAX}) {
            wrong("startSwing, amplitude", () -> p.startSwing(0, 0, x));
            wrong("safeStart", () -> p.safeStart(0, x));
        }
        for (int x : new int[] {-1, 10000, MIN, MAX}) {
            wrong("offset", () -> p.offset(0, x));
            wrong("gap", () -> p.gap(0, 1, x));
            wrong("strikes, from", () -> p.strikes(0, x, 9999));
            wrong("strikes, to", () -> p.strikes(0, 0, x));
            wrong("strikes, both", () -> p.strikes(0, x, x));
        }
        wrong("strikes, to before from", () -> p.strikes(0, 5, 4));
        wrong("gap to itself", () -> p.gap(0, 0, 0));
        Check.due("startSwing(0, 0, 15)", 1, () -> p.startSwing(0, 0, 15));
        Check.due("startSwing(0, 999, 1)", 1, () -> p.startSwing(0, 999, 1));
        Check.due("offset(0, 0)", 0, () -> p.offset(0, 0));
        Check.due("offset(0, 9999)", 0, () -> p.offset(0, 9999));
        Check.due("strikes(0, 9999, 9999)", 0, () -> p.strikes(0, 9999, 9999));
        Check.due("strikes(0, 0, 0)", 0, () -> p.strikes(0, 0, 0));
        Check.due("safeStart(0, 1)", 0, () -> p.safeStart(0, 1));
        Check.due("safeStart(0, 15)", 0, () -> p.safeStart(0, 15));
    }

    private static void chimeArguments() {
        BellTowerPlanner p = tower();
        for (int x : new int[] {-1, 1440, MIN, MAX}) {
            wrong("setChime, first", () -> p.setChime(0, x, 1));
            wrong("isQuiet", () -> p.isQuiet(x) ? 1 : 0);
            wrong("soundsAt", () -> p.soundsAt(x));
            wrong("nextSound", () -> p.nextSound(x));
        }
        for (int x : new int[] {0, -1, 1441, MIN, MAX}) {
            wrong("setChime, interval", () -> p.setChime(0, 0, x));
        }
        Check.due("isQuiet(0)", 0, () -> p.isQuiet(0) ? 1 : 0);
        Check.due("isQuiet(1439)", 0, () -> p.isQuiet(1439) ? 1 : 0);
        Check.due("soundsAt(0)", 0, () -> p.soundsAt(0));
        Check.due("soundsAt(1439)", 0, () -> p.soundsAt(1439));
        Check.due("nextSound(1439)", -2, () -> p.nextSound(1439));
    }

    /** Here each call would have a negative result too, or another exception. */
    private static void argumentsBeforeResults() {
        BellTowerPlanner p = tower();
        p.hang(0, 0, 0);
        wrong("hang of a bell that hangs", () -> p.hang(0, 0, 16));
        wrong("shift of one that does not", () -> p.shift(1, -16));
        wrong("freePositions", () -> p.freePositions(0, 2));
        wrong("bestPosition", () -> p.bestPosition(0, -1));
        wrong("startSwing", () -> p.startSwing(1, 0, 0));
        wrong("offset", () -> p.offset(1, 10000));
        wrong("gap", () -> p.gap(1, 2, 10000));
        wrong("gap to itself", () -> p.gap(1, 1, 0));
        wrong("safeStart", () -> p.safeStart(1, 16));
        wrong("strikes", () -> p.strikes(1, 5, 4));
        wrong("strikeTogether", () -> p.strikeTogether(1, 3));
        wrong("soundTogether", () -> p.soundTogether(-1, 1));
        wrong("planStep", () -> p.planStep(-1));
    }
}

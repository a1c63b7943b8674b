import java.lang.management.ManagementFactory;
import java.lang.reflect.Array;
import java.lang.reflect.Field;
import java.lang.reflect.Modifier;
import java.util.ArrayDeque;
import java.util.Collections;
import java.util.Deque;
import java.util.IdentityHashMap;
import java.util.Set;

/**
 * What a run makes is counted (rule 12 of LANGUAGE.md), so an object must stay small and its calls
 * must make nothing.
 */
public final class RoomTest {
    private static final int MAX_OBJECTS = 100;
    private static final int MAX_ELEMENTS = 20000;
    private static final int ROUNDS = 100;
    private static final int FREE_BYTES = 5000;

    private RoomTest() {
    }

    public static void main(String[] args) throws IllegalAccessException {
        BellTowerPlanner planner = Check.tower("beam 300 50000;beam 300 50000;"
                + "bell 10 2 4;".repeat(8) + "quiet 1 1440;" + "rope 490;".repeat(8));
        countParts(planner);
        callAll(planner);
        countBytes(planner);
        countParts(planner);
        Check.finish();
    }

    private static void countParts(BellTowerPlanner planner) throws IllegalAccessException {
        Set<Object> seen = Collections.newSetFromMap(new IdentityHashMap<>());
        Deque<Object> open = new ArrayDeque<>();
        open.add(planner);
        seen.add(planner);
        int elements = 0;
        while (!open.isEmpty()) {
            elements += countElements(open.remove(), open, seen);
        }
        Check.same("an object makes too many parts: " + seen.size(), 0,
                seen.size() > MAX_OBJECTS ? 1 : 0);
        Check.same("an object holds too much: " + elements, 0, elements > MAX_ELEMENTS ? 1 : 0);
    }

    private static int countElements(Object part, Deque<Object> open, Set<Object> seen)
            throws IllegalAccessException {
        if (part.getClass().isArray()) {
            int length = Array.getLength(part);
            for (int i = 0; i < length && part instanceof Object[]; i++) {
                meet(Array.get(part, i), open, seen);
            }
            return length;
        }
        int count = 0;
        for (Field field : part.getClass().getDeclaredFields()) {
            if (!Modifier.isStatic(field.getModifiers())) {
                count++;
                field.setAccessible(true);
                if (!field.getType().isPrimitive()) {
                    meet(field.get(part), open, seen);
                }
            }
        }
        return count;
    }

    private static void meet(Object part, Deque<Object> open, Set<Object> seen) {
        if (part != null && seen.add(part)) {
            open.add(part);
        }
    }

    private static void countBytes(BellTowerPlanner planner) {
        if (!(ManagementFactory.getThreadMXBean() instanceof com.sun.management.ThreadMXBean)) {
            System.out.println("this machine does not count what its calls make");
            return;
        }
        com.sun.management.ThreadMXBean counter =
                (com.sun.management.ThreadMXBean) ManagementFactory.getThreadMXBean();
        long id = Thread.currentThread().getId();
        long before = counter.getThreadAllocatedBytes(id);
        for (int round = 0; round < ROUNDS; round++) {
            callAll(planner);
        }
        long made = counter.getThreadAllocatedBytes(id) - before;
        Check.same("calls that succeed make something: " + made + " bytes", 0,
                made > FREE_BYTES ? 1 : 0);
    }

    private static void callAll(BellTowerPlanner p) {
        for (int bell = 0; bell < 8; bell++) {
            p.hang(bell, 0, 4 * bell - 14);
            p.setPlan(bell, 1, 4 * bell - 14);
            p.startSwing(bell, 0, 15);
            p.setChime(bell, 0, 60);
        }
        callQueries(p);
        for (int bell = 0; bell < 8; bell++) {
            p.shift(bell, 4 * bell - 14);
            p.clearPlan(bell);
            p.stopSwing(bell);
            p.clearChime(bell);
            p.undo();
            p.takeDown(bell);
        }
        p.append(1, 2, 3, 4, 5);
        p.truncate(0);
        p.load();
        p.errorPosition();
    }

    private static void callQueries(BellTowerPlanner p) {
        p.beamOf(0);
        p.positionOf(0);
        p.torque(0);
        p.bellAt(0, 7);
        p.freePositions(0, 1);
        p.bestPosition(0, 1);
        p.mirroredTorque(0);
        p.mirroredBells(0);
        p.planConflicts();
        p.planUnbalanced();
        p.stepsToPlan();
        p.planStep(15);
        p.offset(0, 9999);
        p.gap(0, 1, 9999);
        p.firstCollision();
        p.collidingBells();
        p.safeStart(0, 15);
        p.safeAmplitude(0);
        p.strikes(0, 0, 9999);
        p.strikeTogether(0, 7);
        p.isQuiet(0);
        p.quietMinutes();
        p.longestLoud();
        p.soundsAt(0);
        p.soundsPerDay(0);
        p.nextSound(1);
        p.busiestMinute();
        p.soundTogether(0, 1);
        p.leastDelay(0);
        p.ropeLength(0);
        p.fewestPieces();
        p.pieceOf(7);
        p.waste();
        p.extraPiece();
    }
}

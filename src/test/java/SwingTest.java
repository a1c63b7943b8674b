/** Promises 23 to 32: swings, collisions and strikes. */
public final class SwingTest {
    private static final String TOWER = "beam 500 50000;beam 500 50000;"
            + "bell 100 2 8;bell 100 3 5;bell 100 2 4;bell 100 2 9;bell 100 3 8;";

    private SwingTest() {
    }

    public static void main(String[] args) {
        starting();
        offsets();
        gaps();
        collisions();
        pairs();
        safeStarts();
        safeAmplitudes();
        strikes();
        strikesTogether();
        Check.finish();
    }

    private static void starting() {
        BellTowerPlanner p = Check.tower(TOWER);
        Check.due("a bell that does not hang", -2, () -> p.startSwing(0, 0, 1));
        p.hang(0, 0, 0);
        p.hang(1, 0, 10);
        Check.due("stopSwing() without a swing", -2, () -> p.stopSwing(0));
        Check.due("the first swing", 1, () -> p.startSwing(0, 999, 15));
        Check.due("the second swing", 2, () -> p.startSwing(1, 0, 1));
        Check.due("in place of the first", 2, () -> p.startSwing(0, 0, 2));
        Check.due("its offset", 2, () -> p.offset(0, 2));
        Check.due("stopSwing(0)", 1, () -> p.stopSwing(0));
        Check.due("stopSwing(0) again", -2, () -> p.stopSwing(0));
        Check.due("no offset any more", 0, () -> p.offset(0, 2));
        Check.due("stopSwing(1)", 0, () -> p.stopSwing(1));
    }

    private static void offsetsOf(BellTowerPlanner p, int bell, int start, int... due) {
        for (int i = 0; i < due.length; i++) {
            int tick = start + i;
            Check.due("offset(" + bell + ", " + tick + ")", due[i], () -> p.offset(bell, tick));
        }
    }

    private static void offsets() {
        BellTowerPlanner p = Check.tower(TOWER);
        Check.due("a bell that does not hang", Check.NO_ELEMENT, () -> p.offset(0, 0));
        p.hang(0, 0, 0);
        p.hang(1, 0, 10);
        p.hang(2, 1, 0);
        p.hang(3, 1, 10);
        offsetsOf(p, 0, 0, 0, 0, 0);
        p.startSwing(0, 2, 4);
        offsetsOf(p, 0, 0, 0, 0, 0, 2, 4, 2, 0, -2, -4, -2, 0, 2, 4);
        offsetsOf(p, 0, 9994, 0, 2, 4, 2, 0, -2);
        p.startSwing(1, 0, 3);
        offsetsOf(p, 1, 0, 0, 2, 1, -1, -2, 0, 2, 1, -1, -2, 0);
        p.startSwing(2, 999, 15);
        offsetsOf(p, 2, 998, 0, 0, 15, 0, -15, 0, 15);
        p.startSwing(3, 0, 7);
        offsetsOf(p, 3, 0, 0, 3, 6, 4, 1, -1, -4, -6, -3, 0);
        p.startSwing(3, 0, 1);
        offsetsOf(p, 3, 0, 0, 0, 0, 0, 0, 0, 0, 0, 0, 0);
    }

    private static void gaps() {
        BellTowerPlanner p = Check.tower(TOWER);
        Check.due("both do not hang", Check.NO_ELEMENT, () -> p.gap(0, 1, 0));
        p.hang(0, 0, 0);
        Check.due("one does not hang", Check.NO_ELEMENT, () -> p.gap(0, 1, 0));
        Check.due("the other does not hang", Check.NO_ELEMENT, () -> p.gap(1, 0, 0));
        p.hang(1, 0, 6);
        p.hang(2, 1, 0);
        Check.due("on two beams", Check.NO_ELEMENT, () -> p.gap(0, 2, 0));
        Check.due("at rest", 1, () -> p.gap(0, 1, 0));
        Check.due("at rest, the other way", 1, () -> p.gap(1, 0, 9999));
        p.startSwing(0, 0, 8);
        Check.due("towards the other", -7, () -> p.gap(0, 1, 2));
        Check.due("towards it, the other way", -7, () -> p.gap(1, 0, 2));
        Check.due("away from it", 9, () -> p.gap(0, 1, 6));
        p.startSwing(1, 2, 10);
        Check.due("both swing", 1 - 4 + 8, () -> p.gap(0, 1, 3));
        p.startSwing(0, 0, 15);
        Check.due("past the other", 1 - 15, () -> p.gap(1, 0, 2));
    }

    private static void collisions() {
        BellTowerPlanner p = Check.tower(TOWER);
        Check.due("no bell: firstCollision()", -2, p::firstCollision);
        Check.due("no bell: collidingBells()", -2, p::collidingBells);
        p.hang(0, 0, 0);
        p.hang(1, 0, 6);
        Check.due("at rest", -2, p::firstCollision);
        p.startSwing(0, 2, 4);
        Check.due("gap 1 - 2", 3, p::firstCollision);
        Check.due("bells 0 and 1", 1, p::collidingBells);
        p.startSwing(0, 2, 1);
        Check.due("gap 1 - 1 at most", -2, p::firstCollision);
        p.startSwing(0, 999, 15);
        Check.due("not before tick 1000", -2, p::firstCollision);
        Check.due("but there", -6, () -> p.gap(0, 1, 1000));
        p.startSwing(0, 998, 4);
        Check.due("at tick 999", 999, p::firstCollision);
        Check.due("bells at tick 999", 1, p::collidingBells);
        p.takeDown(1);
        Check.due("alone", -2, p::firstCollision);
        Check.due("bells alone", -2, p::collidingBells);
        p.hang(1, 1, 0);
        Check.due("on two beams", -2, p::firstCollision);
    }

    private static void pairs() {
        BellTowerPlanner p = Check.tower(TOWER);
        p.hang(0, 0, 0);
        p.hang(3, 0, 4);
        p.hang(1, 1, 5);
        p.hang(2, 1, 0);
        p.startSwing(0, 10, 8);
        p.startSwing(2, 10, 8);
        Check.due("both pairs at once", 11, p::firstCollision);
        Check.due("the least lower number", 3, p::collidingBells);
        p.startSwing(2, 9, 8);
        Check.due("the pair of beam 1 is earlier", 10, p::firstCollision);
        Check.due("bells 1 and 2", 10, p::collidingBells);
        p.stopSwing(2);
        p.hang(4, 0, -5);
        p.startSwing(4, 11, 15);
        p.startSwing(0, 12, 15);
        Check.due("bells 0 and 4", 12, p::firstCollision);
        Check.due("their numbers", 4, p::collidingBells);
        p.startSwing(0, 11, 15);
        Check.due("bells 0 and 3", 12, p::firstCollision);
        Check.due("the least higher number", 3, p::collidingBells);
    }

    private static void safeStarts() {
        BellTowerPlanner p = Check.tower(TOWER);
        Check.due("a bell that does not hang", -2, () -> p.safeStart(0, 15));
        p.hang(0, 0, 0);
        Check.due("alone", 0, () -> p.safeStart(0, 15));
        p.hang(4, 0, 6);
        Check.due("far enough", 0, () -> p.safeStart(0, 1));
        Check.due("too near", -3, () -> p.safeStart(0, 2));
        p.startSwing(4, 5, 4);
        Check.due("in time with the other", 5, () -> p.safeStart(0, 4));
        p.startSwing(0, 0, 15);
        Check.due("in place of its swing", 5, () -> p.safeStart(0, 4));
        p.startSwing(4, 199, 4);
        Check.due("tick 199", 199, () -> p.safeStart(0, 4));
        p.startSwing(4, 200, 4);
        Check.due("not tick 200", -3, () -> p.safeStart(0, 4));
        p.stopSwing(0);
        Check.due("the other comes before it starts", -3, () -> p.safeStart(0, 1));
        p.startSwing(4, 999, 15);
        Check.due("the other comes at tick 1000", 0, () -> p.safeStart(0, 1));
        othersCollide();
        otherBelow();
    }

    private static void otherBelow() {
        BellTowerPlanner p = Check.tower(TOWER);
        p.hang(0, 0, 6);
        p.hang(4, 0, 0);
        Check.due("just clear of the bell below", 0, () -> p.safeStart(0, 1));
        Check.due("too near to the bell below", -3, () -> p.safeStart(0, 2));
        p.startSwing(4, 5, 4);
        Check.due("in time with the bell below", 5, () -> p.safeStart(0, 4));
        p.hang(2, 0, 11);
        Check.due("too near to the bell above", -3, () -> p.safeStart(0, 4));
        p.startSwing(0, 5, 4);
        Check.due("not in time with it: 2 or less", -3, () -> p.safeAmplitude(0));
        p.stopSwing(4);
        Check.due("between both", 1, () -> p.safeAmplitude(0));
    }

    private static void othersCollide() {
        BellTowerPlanner p = Check.tower(TOWER);
        p.hang(0, 0, 0);
        p.hang(3, 0, 4);
        p.hang(2, 0, -15);
        p.startSwing(0, 0, 6);
        Check.due("bells 0 and 3 collide", 1, p::firstCollision);
        Check.due("bell 2 does not care", 0, () -> p.safeStart(2, 2));
        p.startSwing(2, 0, 5);
        Check.due("it has 8 to bell 0 at -3", 8, () -> p.safeAmplitude(2));
    }

    private static void safeAmplitudes() {
        BellTowerPlanner p = Check.tower(TOWER);
        Check.due("a bell that does not hang", -2, () -> p.safeAmplitude(0));
        p.hang(0, 0, 0);
        Check.due("a bell that does not swing", -2, () -> p.safeAmplitude(0));
        p.startSwing(0, 2, 1);
        Check.due("alone", 15, () -> p.safeAmplitude(0));
        p.hang(4, 0, 6);
        Check.due("gap 1", 1, () -> p.safeAmplitude(0));
        p.startSwing(0, 998, 1);
        Check.due("only tick 999, a * 4 / 8", 3, () -> p.safeAmplitude(0));
        p.startSwing(0, 999, 1);
        Check.due("no tick but the start", 15, () -> p.safeAmplitude(0));
        p.startSwing(0, 2, 1);
        p.shift(4, 5);
        Check.due("gap 0", 0, () -> p.safeAmplitude(0));
        p.shift(4, 6);
        p.startSwing(4, 2, 4);
        Check.due("in time with the other, 3 to 5", 5, () -> p.safeAmplitude(0));
        p.startSwing(4, 6, 4);
        Check.due("against the other", -3, () -> p.safeAmplitude(0));
    }

    private static void strikes() {
        BellTowerPlanner p = Check.tower(TOWER);
        p.hang(0, 0, 0);
        Check.due("a bell that does not swing", -2, () -> p.strikes(0, 0, 9));
        p.startSwing(0, 2, 4);
        Check.due("4, 8, .. 20", 5, () -> p.strikes(0, 0, 20));
        Check.due("before the first", 0, () -> p.strikes(0, 0, 3));
        Check.due("the first", 1, () -> p.strikes(0, 4, 4));
        Check.due("between two", 0, () -> p.strikes(0, 5, 7));
        Check.due("both ends", 2, () -> p.strikes(0, 4, 8));
        Check.due("all", 2499, () -> p.strikes(0, 0, 9999));
        Check.due("tick 9996", 1, () -> p.strikes(0, 9993, 9999));
        p.hang(1, 0, 10);
        p.startSwing(1, 0, 1);
        Check.due("1, 3, 6, 8", 4, () -> p.strikes(1, 0, 10));
        Check.due("3 alone", 1, () -> p.strikes(1, 2, 5));
        p.hang(2, 1, 0);
        p.startSwing(2, 0, 1);
        Check.due("every odd tick", 5000, () -> p.strikes(2, 0, 9999));
        p.hang(3, 1, 10);
        p.startSwing(3, 100, 1);
        Check.due("102", 1, () -> p.strikes(3, 0, 105));
        Check.due("102 and 106", 2, () -> p.strikes(3, 0, 110));
        Check.due("and 111", 3, () -> p.strikes(3, 0, 111));
    }

    private static void strikesTogether() {
        BellTowerPlanner p = Check.tower(TOWER);
        p.hang(0, 0, 0);
        p.hang(1, 0, 10);
        p.hang(2, 1, 0);
        p.startSwing(0, 2, 4);
        Check.due("the other does not swing", -2, () -> p.strikeTogether(0, 1));
        Check.due("the one does not swing", -2, () -> p.strikeTogether(1, 0));
        Check.due("neither does", -2, () -> p.strikeTogether(1, 1));
        Check.due("a bell with itself", 4, () -> p.strikeTogether(0, 0));
        p.startSwing(1, 0, 1);
        Check.due("4, 8, .. and 1, 3, 6, 8", 8, () -> p.strikeTogether(0, 1));
        Check.due("the other way", 8, () -> p.strikeTogether(1, 0));
        p.startSwing(2, 0, 1);
        Check.due("even and odd ticks", -3, () -> p.strikeTogether(0, 2));
        p.startSwing(2, 999, 1);
        p.startSwing(0, 997, 4);
        Check.due("odd and even ticks", -3, () -> p.strikeTogether(0, 2));
        p.startSwing(0, 2, 4);
        p.startSwing(2, 999, 1);
        Check.due("1000, 1002, .. and 4, 8, ..", 1000, () -> p.strikeTogether(2, 0));
    }
}

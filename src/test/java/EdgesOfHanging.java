/** The sentences of rule 3 and of promises 6 to 16, each with its edges. */
final class EdgesOfHanging {
    private static final String WIDE = "beam 300 50000;beam 300 50000;";
    private static final String TWO = WIDE + "bell 100 2 4;bell 100 3 4;";

    private EdgesOfHanging() {
    }

    static void check() {
        positions();
        clear();
        balanced();
        always();
        hang();
        hangErrors();
        takeDown();
        takeDownErrors();
        shift();
        shiftErrors();
        beamOf();
        positionOf();
        torque();
        bellAt();
        freePositions();
        bestPosition();
        bestPositionTies();
        mirroredTorque();
        mirroredBells();
    }

    private static void positions() {
        Sentence.rule(3, "A bell hangs on a beam at a position from -15 to 15, or it does not hang.");
        Trial t = Trial.of(TWO);
        t.due(Trial.ARGUMENT, "hang", 0, 0, -16);
        t.due(Trial.ARGUMENT, "hang", 0, 0, 16);
        t.due(1, "hang", 0, 0, -15);
        t.due(-15, "positionOf", 0);
        t.due(1, "hang", 1, 1, 15);
        t.due(15, "positionOf", 1);
        t.due(0, "takeDown", 0);
        t.due(Trial.NO_ELEMENT, "positionOf", 0);
        t.due(-2, "beamOf", 0);

        Sentence.rule(3, "At first no bell hangs.");
        Trial p = Trial.of("beam 300 0;".repeat(4) + "bell 10 2 4;".repeat(8));
        for (int bell = 0; bell < 8; bell++) {
            p.due(-2, "beamOf", bell);
            p.due(Trial.NO_ELEMENT, "positionOf", bell);
        }
        for (int beam = 0; beam < 4; beam++) {
            p.due(-2, "bellAt", beam, 0);
            p.due(0, "torque", beam);
        }
    }

    private static void clear() {
        Sentence.rule(3, "Two bells on the same beam are clear of each other if the absolute "
                + "difference of their positions is at least the sum of their radii.");
        Trial t = Trial.of(TWO);
        t.with("hang", 0, 0, 2);
        int[] near = {-2, -1, 0, 1, 2, 3, 4, 5, 6};
        for (int position : near) {
            t.due(-3, "hang", 1, 0, position);
        }
        t.due(2, "hang", 1, 0, 7);
        t.with("takeDown", 1);
        t.due(2, "hang", 1, 0, -3);
        t.with("takeDown", 1);
        t.due(1, "hang", 1, 1, 2);
        Trial great = Trial.of(WIDE + "bell 10 10 4;bell 10 10 4;");
        great.with("hang", 0, 0, -5);
        great.due(-3, "hang", 1, 0, 14);
        great.due(2, "hang", 1, 0, 15);
        Trial small = Trial.of(WIDE + "bell 10 2 4;bell 10 2 4;");
        small.with("hang", 0, 0, -5);
        small.due(-3, "hang", 1, 0, -2);
        small.due(2, "hang", 1, 0, -1);
    }

    private static void balanced() {
        Sentence.rule(3, "The torque of a beam is the sum of weight * position over all bells that "
                + "hang on it.");
        Trial t = Trial.of(WIDE + "bell 100 2 4;bell 10 2 4;bell 3000 2 4;");
        t.due(0, "torque", 0);
        t.with("hang", 0, 0, -3);
        t.due(-300, "torque", 0);
        t.with("hang", 1, 0, 1);
        t.due(-290, "torque", 0);
        t.with("hang", 2, 1, 15);
        t.due(45000, "torque", 1);
        t.due(-290, "torque", 0);
        t.with("takeDown", 0);
        t.due(10, "torque", 0);

        Sentence.rule(3, "A beam is balanced if the absolute value of its torque is at most its "
                + "limit.");
        Trial limits = Trial.of("beam 300 1499;beam 300 1500;beam 300 1501;beam 300 0;"
                + "bell 100 2 4;");
        limits.due(-4, "hang", 0, 0, 15);
        limits.due(-4, "hang", 0, 0, -15);
        limits.due(1, "hang", 0, 1, 15);
        limits.due(115, "shift", 0, -15);
        limits.with("takeDown", 0);
        limits.due(1, "hang", 0, 2, 15);
        limits.with("takeDown", 0);
        limits.due(-4, "hang", 0, 3, 1);
        limits.due(-4, "hang", 0, 3, -1);
        limits.due(1, "hang", 0, 3, 0);
    }

    private static void always() {
        Sentence.rule(3, "Every two bells on the same beam are always clear of each other, and every "
                + "beam is always balanced: actions that would break this fail.");
        Trial t = Trial.of("beam 300 500;bell 100 2 4;bell 100 2 4;");
        t.with("hang", 0, 0, 5).with("hang", 1, 0, -5).with("shift", 0, 10);
        String before = t.state();
        t.due(-4, "takeDown", 1);
        t.due(-4, "shift", 0, 11);
        t.due(-4, "shift", 1, -4);
        t.due(-3, "shift", 1, 7);
        t.due(-3, "shift", 0, -2);
        t.sameState("actions that fail", before);
        t.due(500, "torque", 0);
    }

    private static void hang() {
        Sentence.promise(6, "Hangs a bell.");
        Trial t = Trial.of(TWO);
        t.with("hang", 1, 1, -7);
        t.due(1, "beamOf", 1);
        t.due(-7, "positionOf", 1);
        t.due(-2, "beamOf", 0);

        Sentence.promise(6, "Returns the number of bells on the beam afterwards");
        Trial p = Trial.of(WIDE + "bell 10 2 4;".repeat(8));
        for (int bell = 0; bell < 7; bell++) {
            p.due(bell + 1, "hang", bell, 0, 4 * bell - 14);
        }
        p.due(1, "hang", 7, 1, 14);
        p.with("takeDown", 7);
        p.due(8, "hang", 7, 0, 14);

        Sentence.promise(6, "-2 if the bell hangs already");
        t.due(-2, "hang", 1, 1, -7);
        t.due(-2, "hang", 1, 1, 7);
        t.due(-2, "hang", 1, 0, 0);
        t.with("takeDown", 1);
        t.due(1, "hang", 1, 1, -7);
    }

    private static void hangErrors() {
        Sentence.promise(6, "-3 if it would not be clear of a bell on the beam");
        Trial t = Trial.of(TWO + "bell 100 2 4;");
        t.with("hang", 0, 0, 0).with("hang", 2, 0, 9);
        t.due(-3, "hang", 1, 0, 4);
        t.due(-3, "hang", 1, 0, 5);
        t.due(-3, "hang", 1, 0, -4);
        t.due(-3, "hang", 1, 0, 13);
        t.due(3, "hang", 1, 0, 14);
        t.with("takeDown", 1);
        t.due(1, "hang", 1, 1, 0);

        Sentence.promise(6, "-4 if the beam would not be balanced");
        Trial p = Trial.of("beam 300 500;bell 100 2 4;bell 50 2 4;");
        p.due(-4, "hang", 0, 0, 6);
        p.due(-4, "hang", 0, 0, -6);
        p.due(1, "hang", 0, 0, 5);
        p.due(-4, "hang", 1, 0, 9);
        p.due(2, "hang", 1, 0, 0);
        p.with("takeDown", 1);
        p.due(2, "hang", 1, 0, -15);
        p.due(-250, "torque", 0);
        Trial order = Trial.of("beam 300 500;bell 100 2 4;bell 3000 10 4;");
        order.with("hang", 0, 0, 5);
        order.due(-2, "hang", 0, 0, 5);
        order.due(-3, "hang", 1, 0, 15);
        order.due(-4, "hang", 1, 0, -15);
    }

    private static void takeDown() {
        Sentence.promise(7, "Takes down a bell.");
        Trial t = Trial.of(TWO);
        t.with("hang", 0, 0, 4).with("setPlan", 0, 1, 3).with("setChime", 0, 7, 1440);
        t.due(0, "takeDown", 0);
        t.due(-2, "beamOf", 0);
        t.due(0, "torque", 0);
        t.due(2, "planStep", 0);
        t.due(0, "soundsPerDay", 0);

        Sentence.promise(7, "If it swings, it does not swing any more.");
        t.with("hang", 0, 0, 4).with("hang", 1, 0, -4);
        t.with("startSwing", 0, 0, 9).with("startSwing", 1, 0, 9);
        t.due(1, "takeDown", 0);
        t.due(-2, "stopSwing", 0);
        t.due(-2, "strikes", 0, 0, 9);
        t.due(9, "offset", 1, 1);
        t.with("hang", 0, 0, 4);
        t.due(0, "offset", 0, 1);
        t.due(-2, "safeAmplitude", 0);
        t.due(0, "stopSwing", 1);

        Sentence.promise(7, "Returns the number of bells on the beam afterwards");
        Trial p = Trial.of(WIDE + "bell 10 2 4;".repeat(8));
        p.with("hang", 7, 1, 0);
        for (int bell = 0; bell < 7; bell++) {
            p.with("hang", bell, 0, 4 * bell - 14);
        }
        for (int bell = 0; bell < 7; bell++) {
            p.due(6 - bell, "takeDown", bell);
        }
        p.due(0, "takeDown", 7);
    }

    private static void takeDownErrors() {
        Sentence.promise(7, "-2 if the bell does not hang");
        Trial t = Trial.of(TWO);
        t.due(-2, "takeDown", 0);
        t.with("hang", 0, 0, 0).with("takeDown", 0);
        t.due(-2, "takeDown", 0);

        Sentence.promise(7, "-4 if the beam would not be balanced");
        Trial p = Trial.of("beam 300 500;bell 100 2 4;bell 100 2 4;");
        p.with("hang", 0, 0, 5).with("hang", 1, 0, -1).with("shift", 0, 6);
        p.due(-4, "takeDown", 1);
        p.due(-1, "positionOf", 1);
        p.due(1, "takeDown", 0);
        p.due(0, "takeDown", 1);
        Trial q = Trial.of("beam 300 500;bell 100 2 4;bell 100 2 4;");
        q.with("hang", 0, 0, 5).with("hang", 1, 0, -5);
        q.due(1, "takeDown", 1);
        q.due(0, "takeDown", 0);
        Trial negative = Trial.of("beam 300 500;bell 100 2 4;bell 100 2 4;");
        negative.with("hang", 0, 0, -5).with("hang", 1, 0, 5).with("shift", 0, -6);
        negative.due(-4, "takeDown", 1);
        negative.with("shift", 0, -5);
        negative.due(1, "takeDown", 1);
    }

    private static void shift() {
        Sentence.promise(8, "Shifts a bell to another position on its beam.");
        Trial t = Trial.of(TWO);
        t.with("hang", 0, 1, 4);
        t.due(104, "shift", 0, -9);
        t.due(-9, "positionOf", 0);
        t.due(1, "beamOf", 0);
        t.due(-900, "torque", 1);
        t.due(0, "torque", 0);

        Sentence.promise(8, "Its swing stays.");
        t.with("startSwing", 0, 3, 8);
        t.due(91, "shift", 0, 2);
        t.due(8, "offset", 0, 4);
        t.due(0, "offset", 0, 3);
        t.due(0, "stopSwing", 0);

        Sentence.promise(8, "it may be the present position");
        t.due(102, "shift", 0, 2);
        t.due(2, "positionOf", 0);
        Trial limit = Trial.of("beam 300 500;bell 100 2 4;bell 100 2 4;");
        limit.with("hang", 0, 0, 5).with("hang", 1, 0, 0);
        limit.due(105, "shift", 0, 5);
        limit.due(100, "shift", 1, 0);
        limit.due(3, "undo");

        Sentence.promise(8, "Returns 100 plus the previous position");
        Trial p = Trial.of(TWO);
        p.with("hang", 0, 0, -15);
        p.due(85, "shift", 0, 15);
        p.due(115, "shift", 0, 0);
        p.due(100, "shift", 0, -1);
        p.due(99, "shift", 0, -15);
    }

    private static void shiftErrors() {
        Sentence.promise(8, "-2 if the bell does not hang");
        Trial t = Trial.of(TWO + "bell 100 2 4;");
        t.due(-2, "shift", 0, 0);
        t.with("hang", 0, 0, 0).with("takeDown", 0);
        t.due(-2, "shift", 0, 0);

        Sentence.promise(8, "-3 if it would not be clear of another bell on the beam");
        t.with("hang", 0, 0, 0).with("hang", 1, 0, 10).with("hang", 2, 1, 0);
        t.due(-3, "shift", 0, 6);
        t.due(100, "shift", 0, 5);
        t.due(-3, "shift", 0, 14);
        t.due(105, "shift", 0, 15);
        t.due(115, "shift", 0, 4);
        t.due(100, "shift", 2, 4);

        Sentence.promise(8, "-4 if the beam would not be balanced");
        Trial p = Trial.of("beam 300 500;bell 100 2 4;bell 100 2 4;");
        p.with("hang", 0, 0, 0);
        p.due(-4, "shift", 0, 6);
        p.due(-4, "shift", 0, -6);
        p.due(100, "shift", 0, 5);
        p.due(105, "shift", 0, -5);
        p.with("hang", 1, 0, 4);
        p.due(-4, "shift", 1, 11);
        p.due(104, "shift", 1, 10);
        p.due(-3, "shift", 0, 13);
    }

    private static void beamOf() {
        Sentence.promise(9, "Returns the beam of a bell.",
                "Returns number of the beam");
        Trial t = Trial.of("beam 300 0;".repeat(4) + "bell 10 2 4;");
        for (int beam = 0; beam < 4; beam++) {
            t.with("hang", 0, beam, 0);
            t.due(beam, "beamOf", 0);
            t.with("takeDown", 0);
        }
        Sentence.promise(9, "-2 if the bell does not hang");
        t.due(-2, "beamOf", 0);
        t.with("setPlan", 0, 3, 0);
        t.due(-2, "beamOf", 0);
    }

    private static void positionOf() {
        Sentence.promise(10, "Returns the position of a bell.");
        Trial t = Trial.of(TWO);
        t.with("hang", 0, 0, -15).with("hang", 1, 0, 15);
        t.due(-15, "positionOf", 0);
        t.due(15, "positionOf", 1);

        Sentence.promise(10, "Returns the position.");
        t.with("shift", 0, 0).with("startSwing", 0, 0, 9);
        t.due(0, "positionOf", 0);

        Sentence.promise(10, "Throws `NoSuchElementException` if the bell does not hang");
        t.with("takeDown", 1);
        t.due(Trial.NO_ELEMENT, "positionOf", 1);
        Trial.of(TWO).due(Trial.NO_ELEMENT, "positionOf", 0);
    }

    private static void torque() {
        Sentence.promise(11, "Returns the torque of a beam.");
        Trial t = Trial.of("beam 300 50000;beam 300 50000;bell 3000 2 4;bell 200 2 4;bell 100 2 4;");
        t.due(0, "torque", 0);
        t.with("hang", 0, 0, -15);
        t.due(-45000, "torque", 0);
        t.with("shift", 0, 15);
        t.due(45000, "torque", 0);

        Sentence.promise(11, "Returns the torque.");
        t.with("hang", 1, 0, -15).with("hang", 2, 1, 1);
        t.due(42000, "torque", 0);
        t.due(100, "torque", 1);
    }

    private static void bellAt() {
        Sentence.promise(12, "Returns a bell on a beam by its place.",
                "0 for the bell with the least position, 1 for the next one, and so on",
                "Returns number of the bell");
        Trial t = Trial.of(WIDE + "bell 10 2 4;".repeat(8));
        int[] positions = {4, -14, 12, 0, -4, 8, -8};
        for (int bell = 0; bell < 7; bell++) {
            t.with("hang", bell, 1, positions[bell]);
        }
        int[] byPlace = {1, 6, 4, 3, 0, 5, 2};
        for (int place = 0; place < 7; place++) {
            t.due(byPlace[place], "bellAt", 1, place);
        }
        t.with("hang", 7, 0, -15);
        t.due(7, "bellAt", 0, 0);
        t.due(1, "bellAt", 1, 0);

        Sentence.promise(12, "-2 if there are not so many bells on the beam");
        t.due(-2, "bellAt", 0, 1);
        t.due(-2, "bellAt", 1, 7);
        t.due(-2, "bellAt", 1, 8);
        t.due(-2, "bellAt", 1, Integer.MAX_VALUE);
        t.with("takeDown", 7);
        t.due(-2, "bellAt", 0, 0);

        Sentence.promise(12, "0 or more");
        t.due(Trial.ARGUMENT, "bellAt", 1, -1);
        t.due(Trial.ARGUMENT, "bellAt", 1, Integer.MIN_VALUE);
    }

    /** How many positions hang() itself takes; each success is undone. */
    private static int takenByHang(Trial t, int bell, int beam) {
        int count = 0;
        for (int position = -15; position <= 15; position++) {
            if (t.answer("hang", bell, beam, position) >= 0) {
                count++;
                t.answer("undo");
            }
        }
        return count;
    }

    private static void freePositions() {
        Sentence.promise(13, "Counts the positions of a beam at which a bell could be hung with "
                + "hang().",
                "Returns the number of positions");
        Trial t = Trial.of("beam 300 50000;beam 300 600;beam 300 0;bell 100 3 4;bell 100 2 4;"
                + "bell 10 10 4;bell 10 10 4;");
        t.due(31, "freePositions", 0, 0);
        t.due(13, "freePositions", 0, 1);
        t.due(1, "freePositions", 0, 2);
        t.with("hang", 1, 0, 0);
        t.due(22, "freePositions", 0, 0);
        t.with("shift", 1, 15);
        t.due(26, "freePositions", 0, 0);
        t.with("shift", 1, -15);
        t.due(26, "freePositions", 0, 0);
        t.with("hang", 2, 1, 0).with("hang", 3, 2, 0);
        t.due(0, "freePositions", 0, 2);
        for (int beam = 0; beam < 3; beam++) {
            t.due(takenByHang(t, 0, beam), "freePositions", 0, beam);
        }
        t.with("takeDown", 3).with("shift", 2, 5);
        t.due(1, "freePositions", 3, 1);
        t.due(takenByHang(t, 3, 1), "freePositions", 3, 1);
        t.with("shift", 2, 4);
        t.due(0, "freePositions", 3, 1);

        Sentence.promise(13, "-2 if the bell hangs already");
        t.due(-2, "freePositions", 1, 0);
        t.due(-2, "freePositions", 1, 2);
        t.with("takeDown", 1);
        t.due(1, "freePositions", 1, 2);
    }

    private static void bestPosition() {
        Sentence.promise(14, "Finds the position of a beam at which a bell could be hung with hang() "
                + "and with which the absolute value of the torque is least");
        Trial t = Trial.of("beam 300 1500;beam 300 0;bell 100 2 8;bell 150 3 5;bell 50 2 4;");
        t.due(100, "bestPosition", 0, 0);
        t.with("hang", 0, 0, 7);
        t.due(95, "bestPosition", 1, 0);
        t.due(86, "bestPosition", 2, 0);
        t.with("shift", 0, 2);
        t.due(97, "bestPosition", 1, 0);
        t.due(96, "bestPosition", 2, 0);
        t.with("shift", 0, -1);
        t.due(104, "bestPosition", 1, 0);
        t.due(103, "bestPosition", 2, 0);

        Sentence.promise(14, "Returns 100 plus the position");
        t.with("shift", 0, 15);
        t.due(85, "bestPosition", 2, 0);
        t.due(90, "bestPosition", 1, 0);
        t.with("shift", 0, -15);
        t.due(115, "bestPosition", 2, 0);
        t.due(110, "bestPosition", 1, 0);
        t.due(100, "bestPosition", 1, 1);

        Sentence.promise(14, "-2 if the bell hangs already");
        t.due(-2, "bestPosition", 0, 0);
        t.due(-2, "bestPosition", 0, 1);

        Sentence.promise(14, "-3 if there is no such position");
        t.with("hang", 1, 1, 0);
        t.due(-3, "bestPosition", 2, 1);
        Trial great = Trial.of(WIDE + "bell 10 10 4;bell 10 10 4;");
        great.with("hang", 0, 0, 4);
        great.due(-3, "bestPosition", 1, 0);
        great.with("shift", 0, 5);
        great.due(85, "bestPosition", 1, 0);
        great.with("shift", 0, -5);
        great.due(115, "bestPosition", 1, 0);
    }

    private static void bestPositionTies() {
        Sentence.promise(14, "of several the least position");
        Trial t = Trial.of("beam 300 9000;bell 100 2 4;bell 200 2 4;bell 100 3 4;");
        t.with("hang", 0, 0, 0);
        t.due(95, "bestPosition", 2, 0);
        t.due(96, "bestPosition", 1, 0);
        t.with("shift", 0, 9);
        t.due(95, "bestPosition", 1, 0);
        t.with("shift", 0, -9);
        t.due(104, "bestPosition", 1, 0);
    }

    private static void mirroredTorque() {
        Sentence.promise(15, "Finds the least absolute value of the torque that a beam can have if "
                + "any bells on it are mirrored, that is, their positions are negated.",
                "Returns the least absolute value of the torque.");
        Trial t = Trial.of(WIDE + "bell 100 2 4;bell 200 2 4;bell 300 2 4;");
        t.due(0, "mirroredTorque", 0);
        t.with("hang", 0, 0, -6);
        t.due(600, "mirroredTorque", 0);
        t.with("shift", 0, 6);
        t.due(600, "mirroredTorque", 0);
        t.with("hang", 1, 0, 10);
        t.due(1400, "mirroredTorque", 0);
        t.with("hang", 2, 0, 2);
        t.due(800, "mirroredTorque", 0);
        t.due(0, "mirroredTorque", 1);
        Trial negative = Trial.of(WIDE + "bell 100 2 4;bell 200 2 4;");
        negative.with("hang", 0, 1, -6).with("hang", 1, 1, -10);
        negative.due(-2600, "torque", 1);
        negative.due(1400, "mirroredTorque", 1);

        Sentence.promise(15, "Every two bells on the beam must be clear of each other then");
        Trial p = Trial.of(WIDE + "bell 100 2 4;bell 100 2 4;bell 10 2 4;");
        p.with("hang", 0, 0, 6).with("hang", 1, 0, 10).with("hang", 2, 0, -8);
        p.due(1520, "mirroredTorque", 0);
        p.due(0, "mirroredBells", 0);
        p.with("shift", 2, -10);
        p.due(1000 - 600 - 100, "mirroredTorque", 0);
        p.due(1, "mirroredBells", 0);
        p.with("shift", 2, -9);
        p.due(1510, "mirroredTorque", 0);

        Sentence.promise(15, "the limit does not matter");
        Trial q = Trial.of("beam 300 0;beam 300 400;bell 100 2 4;bell 100 2 4;");
        q.with("hang", 0, 0, 0);
        q.due(0, "mirroredTorque", 0);
        q.with("hang", 1, 1, 4);
        q.due(400, "mirroredTorque", 1);
    }

    private static void mirroredBells() {
        Sentence.promise(16, "Returns the set of bells that must be mirrored for mirroredTorque()",
                "Returns the set.");
        Trial t = Trial.of(WIDE + "bell 10 2 4;".repeat(7) + "bell 100 2 4;");
        t.due(0, "mirroredBells", 0);
        t.with("hang", 6, 0, 8).with("hang", 7, 0, 4);
        t.due(320, "mirroredTorque", 0);
        t.due(64, "mirroredBells", 0);
        t.with("hang", 3, 0, 0);
        t.due(64, "mirroredBells", 0);
        t.with("shift", 6, -8);
        t.due(0, "mirroredBells", 0);
        t.due(0, "mirroredBells", 1);
        t.with("shift", 7, -4);
        t.due(-480, "torque", 0);
        t.due(64, "mirroredBells", 0);

        Sentence.promise(16, "of several sets the one with the fewest bells");
        Trial fewest = Trial.of(WIDE + "bell 10 2 4;bell 100 2 4;bell 100 2 4;");
        fewest.with("hang", 2, 0, 6).with("hang", 1, 0, 10).with("hang", 0, 0, -14);
        fewest.due(260, "mirroredTorque", 0);
        fewest.due(4, "mirroredBells", 0);
        Trial none = Trial.of(WIDE + "bell 100 2 4;bell 100 2 4;bell 100 2 4;");
        none.with("hang", 0, 0, 4).with("hang", 1, 0, 8).with("hang", 2, 0, -13);
        none.due(100, "mirroredTorque", 0);
        none.due(0, "mirroredBells", 0);

        Sentence.promise(16, "of these the least mask");
        Trial least = Trial.of(WIDE + "bell 100 2 4;".repeat(4));
        least.with("hang", 2, 0, 5).with("hang", 3, 0, 10);
        least.due(500, "mirroredTorque", 0);
        least.due(4, "mirroredBells", 0);
        least.with("hang", 0, 0, 15).with("hang", 1, 0, 1);
        least.due(100, "mirroredTorque", 0);
        least.due(1, "mirroredBells", 0);
    }
}

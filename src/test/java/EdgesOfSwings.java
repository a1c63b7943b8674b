/** The sentences of rule 5 and of promises 23 to 32, each with its edges. */
final class EdgesOfSwings {
    /** Bell 0 has a gap of 1 to bell 1 if they hang 6 apart, and bell 2 has the same. */
    private static final String TOWER = "beam 500 50000;beam 500 50000;"
            + "bell 100 2 8;bell 100 3 5;bell 100 2 4;bell 100 2 9;bell 100 3 8;";

    private EdgesOfSwings() {
    }

    static void check() {
        swinging();
        rising();
        falling();
        returning();
        gapsAtTicks();
        colliding();
        ticksOfCollisions();
        ticksOfStrikes();
        startSwing();
        stopSwing();
        offset();
        gap();
        firstCollision();
        collidingBells();
        safeStart();
        safeStartErrors();
        safeAmplitude();
        strikes();
        strikeTogether();
    }

    private static void offsets(Trial t, int bell, int first, int... due) {
        for (int i = 0; i < due.length; i++) {
            t.due(due[i], "offset", bell, first + i);
        }
    }

    /** One bell that swings from tick 100 on. */
    private static Trial swinging(int period, int amplitude) {
        Trial t = Trial.of("beam 500 50000;bell 100 2 " + period + ";");
        return t.with("hang", 0, 0, 0).with("startSwing", 0, 100, amplitude);
    }

    private static void swinging() {
        Sentence.rule(5, "A bell that hangs may swing, with a start tick s and an amplitude a.");
        Trial t = Trial.of(TOWER);
        t.due(-2, "startSwing", 2, 7, 3);
        t.with("hang", 2, 0, 0);
        t.due(1, "startSwing", 2, 7, 3);
        offsets(t, 2, 6, 0, 0, 3, 0, -3, 0, 3);
        t.with("startSwing", 2, 6, 15);
        offsets(t, 2, 6, 0, 15, 0, -15, 0);

        Sentence.rule(5, "A bell that does not swing has the offset 0.");
        t.with("hang", 1, 0, 10);
        t.due(0, "offset", 1, 0);
        t.due(0, "offset", 1, 9999);
        t.with("stopSwing", 2);
        offsets(t, 2, 6, 0, 0, 0, 0, 0);

        Sentence.rule(5, "The offset of a swinging bell with period P at tick t is 0 if t is less "
                + "than s.");
        Trial p = Trial.of(TOWER);
        p.with("hang", 2, 0, 0).with("startSwing", 2, 999, 15);
        offsets(p, 2, 990, 0, 0, 0, 0, 0, 0, 0, 0, 0, 0, 15, 0, -15);
        p.due(0, "offset", 2, 0);
        offsets(swinging(7, 15), 0, 97, 0, 0, 0, 0, 8);
    }

    private static void rising() {
        Sentence.rule(5, "Otherwise let q be the remainder of t - s divided by P, and n = 4 * q; the "
                + "offset is a * n / P if n is at most P");
        offsets(swinging(4, 15), 0, 100, 0, 15);
        offsets(swinging(5, 3), 0, 100, 0, 2);
        offsets(swinging(8, 15), 0, 100, 0, 7, 15);
        offsets(swinging(40, 15), 0, 100, 0, 1, 3, 4, 6, 7, 9, 10, 12, 13, 15);
        offsets(swinging(4, 15), 0, 104, 0, 15);
        offsets(swinging(5, 3), 0, 9995, 0, 2, 1, -1, -2);
        offsets(swinging(7, 10), 0, 107, 0, 5);
        offsets(swinging(40, 15), 0, 140, 0, 1);
    }

    private static void falling() {
        Sentence.rule(5, "a * (2 * P - n) / P if n is greater than P and at most 3 * P");
        offsets(swinging(4, 15), 0, 102, 0, -15);
        offsets(swinging(5, 3), 0, 102, 1, -1);
        offsets(swinging(6, 15), 0, 102, 10, 0, -10);
        offsets(swinging(7, 10), 0, 102, 8, 2, -2, -8);
        offsets(swinging(9, 7), 0, 103, 4, 1, -1, -4);
        offsets(swinging(40, 15), 0, 111, 13, 12);
        offsets(swinging(40, 15), 0, 119, 1, 0, -1);
        offsets(swinging(40, 15), 0, 129, -13, -15);
    }

    private static void returning() {
        Sentence.rule(5, "and a * (n - 4 * P) / P otherwise");
        offsets(swinging(5, 3), 0, 104, -2, 0);
        offsets(swinging(6, 15), 0, 105, -10, 0);
        offsets(swinging(7, 10), 0, 106, -5, 0);
        offsets(swinging(9, 7), 0, 107, -6, -3, 0);
        offsets(swinging(40, 15), 0, 131, -13, -12);
        offsets(swinging(40, 15), 0, 138, -3, -1, 0);
    }

    private static void gapsAtTicks() {
        Sentence.rule(5, "The gap of two bells on the same beam at tick t is (position + offset of "
                + "the bell with the greater position) - (position + offset of the other one) - "
                + "(the sum of their radii).");
        Trial t = Trial.of(TOWER);
        t.with("hang", 0, 0, 0).with("hang", 1, 0, 6);
        t.due(1, "gap", 0, 1, 0);
        t.due(1, "gap", 1, 0, 0);
        t.with("startSwing", 0, 0, 15);
        t.due(1 - 15, "gap", 0, 1, 2);
        t.due(1 - 15, "gap", 1, 0, 2);
        t.due(1 + 15, "gap", 0, 1, 6);
        t.with("startSwing", 1, 2, 10);
        t.due(1 + 8 - 7, "gap", 0, 1, 3);
        t.due(1 + 8 - 7, "gap", 1, 0, 3);
        t.with("takeDown", 1).with("hang", 1, 0, -6);
        t.due(1 + 15, "gap", 0, 1, 2);
        t.due(1 - 15, "gap", 1, 0, 6);
    }

    private static void colliding() {
        Sentence.rule(5, "They collide at tick t if the gap is negative.");
        Trial t = Trial.of(TOWER);
        t.with("hang", 2, 0, 0).with("hang", 1, 0, 6).with("startSwing", 2, 10, 1);
        t.due(0, "gap", 1, 2, 11);
        t.due(-2, "firstCollision");
        t.with("startSwing", 2, 10, 2);
        t.due(-1, "gap", 1, 2, 11);
        t.due(11, "firstCollision");
        t.with("stopSwing", 2).with("shift", 1, 5);
        t.due(0, "gap", 1, 2, 0);
        t.due(-2, "firstCollision");
    }

    private static void ticksOfCollisions() {
        Sentence.rule(5, "Collisions are looked for at the ticks 0 to 999.");
        Trial t = Trial.of(TOWER);
        t.with("hang", 2, 0, 0).with("hang", 1, 0, 6).with("startSwing", 2, 0, 2);
        t.due(1, "firstCollision");
        t.with("startSwing", 2, 998, 2);
        t.due(999, "firstCollision");
        t.due(10, "collidingBells");
        t.with("startSwing", 2, 999, 15);
        t.due(-14, "gap", 1, 2, 1000);
        t.due(-2, "firstCollision");
        t.due(-2, "collidingBells");
        t.due(15, "safeAmplitude", 2);
        t.with("startSwing", 2, 998, 15);
        t.due(1, "safeAmplitude", 2);
    }

    private static void strikesAt(Trial t, int bell, int... ticks) {
        for (int tick : ticks) {
            t.due(1, "strikes", bell, tick, tick);
            t.due(0, "strikes", bell, tick - 1, tick - 1);
        }
    }

    private static void ticksOfStrikes() {
        Sentence.rule(5, "A swinging bell strikes at each tick t, not less than s, for which q is "
                + "P / 4 or 3 * P / 4.");
        strikesAt(swinging(4, 1), 0, 101, 103, 105, 9999);
        strikesAt(swinging(5, 1), 0, 101, 103, 106, 108);
        strikesAt(swinging(6, 1), 0, 101, 104, 107, 110);
        strikesAt(swinging(7, 1), 0, 101, 105, 108, 112);
        strikesAt(swinging(9, 1), 0, 102, 106, 111, 115);
        strikesAt(swinging(39, 1), 0, 109, 129, 148, 168);
        strikesAt(swinging(40, 1), 0, 110, 130, 150, 170);
        swinging(4, 15).due(0, "strikes", 0, 0, 100);
        swinging(40, 15).due(0, "strikes", 0, 0, 109);
        swinging(4, 15).due(4950, "strikes", 0, 0, 9999);
        swinging(40, 15).due(495, "strikes", 0, 0, 9999);
    }

    private static void startSwing() {
        Sentence.promise(23, "Lets a bell swing, in place of an earlier swing of this bell.");
        Trial t = Trial.of(TOWER);
        t.with("hang", 0, 0, 0).with("hang", 1, 0, 10);
        t.with("startSwing", 0, 0, 4).with("startSwing", 1, 0, 4).with("startSwing", 0, 2, 8);
        offsets(t, 0, 2, 0, 4, 8);
        offsets(t, 1, 1, 3, 1);
        t.due(1, "stopSwing", 0);
        t.due(-2, "stopSwing", 0);

        Sentence.promise(23, "Collisions are not checked.");
        t.with("shift", 1, 5);
        t.due(2, "startSwing", 0, 0, 15);
        t.due(1, "firstCollision");

        Sentence.promise(23, "- `tick`: the start tick, 0 to 999", "- `amplitude`: 1 to 15");
        t.due(2, "startSwing", 0, 0, 1);
        t.due(2, "startSwing", 0, 999, 15);
        t.due(Trial.ARGUMENT, "startSwing", 0, -1, 1);
        t.due(Trial.ARGUMENT, "startSwing", 0, 1000, 1);
        t.due(Trial.ARGUMENT, "startSwing", 0, 0, 0);
        t.due(Trial.ARGUMENT, "startSwing", 0, 0, 16);
        t.due(0, "offset", 0, 999);
        t.due(15, "offset", 0, 1001);

        Sentence.promise(23, "Returns the number of swinging bells afterwards");
        Trial p = Trial.of("beam 300 50000;" + "bell 10 2 4;".repeat(8));
        for (int bell = 0; bell < 8; bell++) {
            p.with("hang", bell, 0, 4 * bell - 14);
            p.due(bell + 1, "startSwing", bell, bell, 1);
            p.due(bell + 1, "startSwing", bell, 0, 2);
        }
        p.with("takeDown", 3);
        p.due(7, "startSwing", 4, 0, 3);

        Sentence.promise(23, "-2 if the bell does not hang");
        p.due(-2, "startSwing", 3, 0, 1);
        Trial.of(TOWER).due(-2, "startSwing", 4, 999, 15);
    }

    private static void stopSwing() {
        Sentence.promise(24, "Stops a swing.");
        Trial t = Trial.of(TOWER);
        t.with("hang", 0, 0, 0).with("hang", 1, 0, 10).with("hang", 2, 1, 0);
        t.with("startSwing", 0, 0, 4).with("startSwing", 1, 0, 4).with("startSwing", 2, 0, 4);
        t.with("stopSwing", 0);
        t.due(0, "offset", 0, 2);
        t.due(3, "offset", 1, 1);
        t.due(-2, "strikes", 0, 0, 9999);

        Sentence.promise(24, "Returns the number of swinging bells afterwards");
        t.due(1, "stopSwing", 2);
        t.due(0, "stopSwing", 1);

        Sentence.promise(24, "-2 if the bell does not swing");
        t.due(-2, "stopSwing", 1);
        t.due(-2, "stopSwing", 3);
        t.with("startSwing", 0, 0, 1).with("takeDown", 0);
        t.due(-2, "stopSwing", 0);
    }

    private static void offset() {
        Sentence.promise(25, "Returns the offset of a bell.", "Returns the offset.");
        offsets(swinging(8, 4), 0, 99, 0, 0, 2, 4, 2, 0, -2, -4, -2, 0);
        offsets(swinging(4, 1), 0, 100, 0, 1, 0, -1, 0);

        Sentence.promise(25, "- `tick`: 0 to 9999");
        Trial t = swinging(4, 15);
        t.due(0, "offset", 0, 0);
        t.due(-15, "offset", 0, 9999);
        t.due(Trial.ARGUMENT, "offset", 0, -1);
        t.due(Trial.ARGUMENT, "offset", 0, 10000);

        Sentence.promise(25, "Throws `NoSuchElementException` if the bell does not hang");
        t.with("takeDown", 0);
        t.due(Trial.NO_ELEMENT, "offset", 0, 0);
        t.due(Trial.NO_ELEMENT, "offset", 0, 9999);
        t.due(Trial.ARGUMENT, "offset", 0, 10000);
    }

    private static void gap() {
        Sentence.promise(26, "Returns the gap of two bells on the same beam.", "Returns the gap.");
        Trial t = Trial.of(TOWER);
        t.with("hang", 0, 0, -15).with("hang", 1, 0, 15).with("hang", 2, 0, -11);
        t.due(25, "gap", 0, 1, 0);
        t.due(0, "gap", 0, 2, 0);
        t.due(0, "gap", 2, 0, 0);
        t.due(21, "gap", 1, 2, 0);
        t.with("startSwing", 0, 0, 15).with("startSwing", 1, 0, 15);
        t.due(-15, "gap", 0, 2, 2);
        t.due(25 + 12 - 7, "gap", 0, 1, 1);
        t.due(25 - 6 - 7, "gap", 1, 0, 3);

        Sentence.promise(26, "- `tick`: 0 to 9999");
        t.due(25, "gap", 0, 1, 0);
        t.due(25 - 12 + 7, "gap", 0, 1, 9999);
        t.due(Trial.ARGUMENT, "gap", 0, 1, -1);
        t.due(Trial.ARGUMENT, "gap", 0, 1, 10000);

        Sentence.promise(26, "- `other`: number of another bell (the same one is out of range)");
        for (int bell = 0; bell < 5; bell++) {
            t.due(Trial.ARGUMENT, "gap", bell, bell, 0);
        }
        t.due(Trial.ARGUMENT, "gap", 0, 5, 0);
        t.due(Trial.ARGUMENT, "gap", 0, -1, 0);

        Sentence.promise(26, "Throws `NoSuchElementException` if they do not hang on the same beam");
        t.due(Trial.NO_ELEMENT, "gap", 0, 3, 0);
        t.due(Trial.NO_ELEMENT, "gap", 3, 0, 0);
        t.due(Trial.NO_ELEMENT, "gap", 3, 4, 0);
        t.due(Trial.NO_ELEMENT, "gap", 3, 4, 9999);
        t.with("hang", 3, 1, 0);
        t.due(Trial.NO_ELEMENT, "gap", 0, 3, 0);
        t.due(Trial.NO_ELEMENT, "gap", 3, 0, 0);
        t.with("hang", 4, 1, 5);
        t.due(0, "gap", 4, 3, 0);
    }

    private static void firstCollision() {
        Sentence.promise(27, "Finds the first tick (0 to 999) at which two bells collide.",
                "Returns the tick");
        Trial t = Trial.of(TOWER);
        t.with("hang", 0, 0, 0).with("hang", 1, 0, 6);
        t.with("startSwing", 0, 2, 4);
        t.due(3, "firstCollision");
        t.with("startSwing", 0, 2, 2);
        t.due(4, "firstCollision");
        t.with("startSwing", 0, 998, 4);
        t.due(999, "firstCollision");
        t.with("hang", 2, 1, 0).with("hang", 4, 1, 5).with("startSwing", 2, 50, 1);
        t.due(51, "firstCollision");
        t.with("startSwing", 4, 0, 15);
        t.due(5, "firstCollision");

        Sentence.promise(27, "-2 if there is no collision");
        Trial p = Trial.of(TOWER);
        p.due(-2, "firstCollision");
        p.with("hang", 0, 0, 0).with("startSwing", 0, 0, 15);
        p.due(-2, "firstCollision");
        p.with("hang", 1, 1, 0);
        p.due(-2, "firstCollision");
        p.with("takeDown", 1).with("hang", 1, 0, 6);
        p.due(1, "firstCollision");
        p.with("startSwing", 0, 999, 15);
        p.due(-2, "firstCollision");
        p.with("startSwing", 0, 998, 2);
        p.due(-1, "gap", 0, 1, 1000);
        p.due(-2, "firstCollision");
    }

    private static void collidingBells() {
        Sentence.promise(28, "Returns the two bells that collide at the tick of firstCollision()",
                "Returns 8 * lower number + higher number");
        Trial t = Trial.of("beam 300 50000;beam 300 50000;" + "bell 10 2 4;".repeat(8));
        for (int bell = 0; bell < 8; bell++) {
            t.with("hang", bell, 0, 4 * bell - 14);
        }
        t.with("startSwing", 7, 5, 1);
        t.due(8, "firstCollision");
        t.due(8 * 6 + 7, "collidingBells");
        t.with("startSwing", 0, 4, 1);
        t.due(5, "firstCollision");
        t.due(1, "collidingBells");
        t.with("stopSwing", 0).with("startSwing", 7, 5, 8);
        t.due(8 * 5 + 7, "collidingBells");

        Sentence.promise(28, "of several pairs the one with the least lower number");
        t.with("startSwing", 7, 5, 1).with("startSwing", 4, 7, 1);
        t.due(8, "firstCollision");
        t.due(8 * 4 + 5, "collidingBells");
        t.with("startSwing", 4, 5, 1);
        t.due(6, "firstCollision");
        Trial beams = Trial.of("beam 300 50000;beam 300 50000;" + "bell 10 2 4;".repeat(4));
        beams.with("hang", 1, 0, 0).with("hang", 2, 0, 4);
        beams.with("hang", 0, 1, 0).with("hang", 3, 1, 4);
        beams.with("startSwing", 1, 0, 1).with("startSwing", 3, 2, 1);
        beams.due(1, "firstCollision");
        beams.due(8 + 2, "collidingBells");
        beams.with("startSwing", 0, 0, 1);
        beams.due(3, "collidingBells");

        Sentence.promise(28, "of these the one with the least higher number");
        Trial p = Trial.of("beam 300 50000;" + "bell 10 2 4;".repeat(4));
        p.with("hang", 1, 0, 0).with("hang", 3, 0, 4).with("hang", 2, 0, 8);
        p.with("startSwing", 1, 0, 15);
        p.due(1, "firstCollision");
        p.due(8 + 2, "collidingBells");
        p.with("takeDown", 2).with("hang", 0, 0, 12);
        p.due(1, "collidingBells");

        Sentence.promise(28, "-2 if there is no collision");
        p.with("stopSwing", 1);
        p.due(-2, "collidingBells");
        p.with("startSwing", 1, 999, 15);
        p.due(-2, "collidingBells");
        Trial.of(TOWER).due(-2, "collidingBells");
    }

    private static void safeStart() {
        Sentence.promise(29, "Finds the least start tick (0 to 199) with which a bell could swing "
                + "with an amplitude, in place of its present swing, without colliding with any "
                + "other bell.", "Returns the tick");
        Trial t = Trial.of(TOWER);
        t.with("hang", 0, 0, 0);
        t.due(0, "safeStart", 0, 15);
        t.with("hang", 4, 0, 6);
        t.due(0, "safeStart", 0, 1);
        t.with("startSwing", 4, 5, 4);
        t.due(5, "safeStart", 0, 4);
        t.with("startSwing", 0, 0, 15);
        t.due(5, "safeStart", 0, 4);
        t.due(0, "offset", 0, 0);
        t.due(15, "offset", 0, 2);
        t.with("startSwing", 4, 199, 4);
        t.due(199, "safeStart", 0, 4);
        t.with("takeDown", 4).with("hang", 4, 0, -6).with("startSwing", 4, 5, 4);
        t.due(5, "safeStart", 0, 4);
        t.with("takeDown", 4).with("hang", 4, 1, 0).with("hang", 1, 1, 6);
        t.with("startSwing", 1, 0, 15);
        t.due(3, "firstCollision");
        t.due(0, "safeStart", 0, 15);
        t.with("takeDown", 1).with("hang", 1, 0, 6).with("stopSwing", 0);
        t.due(0, "safeStart", 1, 1);
        t.with("startSwing", 0, 0, 2);
        t.due(-3, "safeStart", 1, 1);

        Sentence.promise(29, "- `amplitude`: 1 to 15");
        t.due(0, "safeStart", 0, 1);
        t.due(Trial.ARGUMENT, "safeStart", 0, 0);
        t.due(Trial.ARGUMENT, "safeStart", 0, 16);
    }

    private static void safeStartErrors() {
        Sentence.promise(29, "-2 if the bell does not hang");
        Trial t = Trial.of(TOWER);
        t.due(-2, "safeStart", 0, 1);
        t.with("hang", 0, 0, 0).with("takeDown", 0);
        t.due(-2, "safeStart", 0, 15);

        Sentence.promise(29, "-3 if there is no such tick");
        t.with("hang", 0, 0, 0).with("hang", 4, 0, 6);
        t.due(0, "safeStart", 0, 1);
        t.due(-3, "safeStart", 0, 2);
        t.with("startSwing", 4, 200, 4);
        t.due(-3, "safeStart", 0, 4);
        t.due(-3, "safeStart", 0, 1);
        t.with("startSwing", 4, 993, 4);
        t.due(-3, "safeStart", 0, 1);
        t.with("startSwing", 4, 994, 4);
        t.due(1, "safeStart", 0, 1);
        t.with("startSwing", 4, 995, 15);
        t.due(0, "safeStart", 0, 1);
    }

    private static void safeAmplitude() {
        Sentence.promise(30, "Finds the greatest amplitude (0 to 15) with which a swinging bell, "
                + "with its start tick, would not collide with any other bell.",
                "Returns the amplitude");
        Trial t = Trial.of(TOWER);
        t.with("hang", 0, 0, 0).with("startSwing", 0, 2, 1);
        t.due(15, "safeAmplitude", 0);
        t.with("hang", 4, 0, 6);
        t.due(1, "safeAmplitude", 0);
        t.with("shift", 4, 5);
        t.due(0, "safeAmplitude", 0);
        t.with("shift", 4, 15);
        t.due(10, "safeAmplitude", 0);
        t.with("shift", 4, -15);
        t.due(10, "safeAmplitude", 0);
        t.with("shift", 4, 6).with("startSwing", 0, 998, 1);
        t.due(3, "safeAmplitude", 0);
        t.with("startSwing", 0, 999, 1);
        t.due(15, "safeAmplitude", 0);
        t.with("startSwing", 0, 2, 15).with("startSwing", 4, 2, 4);
        t.due(5, "safeAmplitude", 0);
        t.due(15, "offset", 0, 4);
        t.with("startSwing", 0, 2, 6);
        t.due(7, "safeAmplitude", 4);

        Sentence.promise(30, "-2 if the bell does not swing");
        t.with("stopSwing", 0);
        t.due(-2, "safeAmplitude", 0);
        t.due(-2, "safeAmplitude", 1);

        Sentence.promise(30, "-3 if it would collide with every amplitude");
        t.with("startSwing", 0, 2, 15).with("startSwing", 4, 6, 4);
        t.due(-3, "safeAmplitude", 0);
        t.with("startSwing", 4, 6, 2);
        t.due(-3, "safeAmplitude", 0);
        t.with("startSwing", 4, 994, 4).with("startSwing", 0, 999, 1);
        t.due(-3, "safeAmplitude", 0);
        t.with("startSwing", 4, 995, 15);
        t.due(15, "safeAmplitude", 0);
    }

    private static void strikes() {
        Sentence.promise(31, "Counts the strikes of a bell.", "- `from`: first tick, 0 to 9999",
                "- `to`: last tick, from to 9999");
        Trial t = swinging(4, 15);
        t.due(4950, "strikes", 0, 0, 9999);
        t.due(0, "strikes", 0, 0, 0);
        t.due(1, "strikes", 0, 9999, 9999);
        t.due(Trial.ARGUMENT, "strikes", 0, -1, 9999);
        t.due(Trial.ARGUMENT, "strikes", 0, 10000, 10000);
        t.due(Trial.ARGUMENT, "strikes", 0, 0, 10000);
        t.due(Trial.ARGUMENT, "strikes", 0, 1, 0);
        t.due(Trial.ARGUMENT, "strikes", 0, 9999, 9998);
        t.due(Trial.ARGUMENT, "strikes", 0, 0, -1);

        Sentence.promise(31, "Returns the number of ticks from the first to the last one, both "
                + "included, at which the bell strikes");
        t.due(0, "strikes", 0, 0, 100);
        t.due(1, "strikes", 0, 0, 101);
        t.due(1, "strikes", 0, 101, 101);
        t.due(2, "strikes", 0, 101, 103);
        t.due(1, "strikes", 0, 102, 103);
        t.due(0, "strikes", 0, 102, 102);
        t.due(2, "strikes", 0, 9996, 9999);
        t.due(1, "strikes", 0, 9996, 9998);

        Sentence.promise(31, "-2 if the bell does not swing");
        t.with("stopSwing", 0);
        t.due(-2, "strikes", 0, 0, 9999);
        t.due(Trial.ARGUMENT, "strikes", 0, 5, 4);
        t.with("takeDown", 0);
        t.due(-2, "strikes", 0, 0, 0);
    }

    private static void strikeTogether() {
        Sentence.promise(32, "Finds the first tick (0 to 9999) at which two bells strike together.",
                "Returns the tick");
        Trial t = Trial.of("beam 300 50000;bell 10 2 39;bell 10 2 40;bell 10 2 4;bell 10 2 4;");
        for (int bell = 0; bell < 4; bell++) {
            t.with("hang", bell, 0, 4 * bell);
        }
        t.with("startSwing", 2, 0, 1).with("startSwing", 3, 0, 15);
        t.due(1, "strikeTogether", 2, 3);
        t.due(1, "strikeTogether", 3, 2);
        t.due(1, "strikeTogether", 2, 2);
        t.with("startSwing", 3, 2, 15);
        t.due(3, "strikeTogether", 2, 3);
        t.with("startSwing", 0, 999, 1).with("startSwing", 1, 979, 1);
        t.due(1749, "strikeTogether", 0, 1);
        t.due(1749, "strikeTogether", 1, 0);
        t.due(1008, "strikeTogether", 0, 0);

        Sentence.promise(32, "-3 if there is no such tick");
        t.with("startSwing", 3, 1, 1);
        t.due(-3, "strikeTogether", 2, 3);
        t.with("startSwing", 3, 998, 1).with("startSwing", 2, 999, 1);
        t.due(-3, "strikeTogether", 3, 2);

        Sentence.promise(32, "-2 if one of them does not swing");
        t.with("stopSwing", 2);
        t.due(-2, "strikeTogether", 2, 3);
        t.due(-2, "strikeTogether", 3, 2);
        t.due(-2, "strikeTogether", 2, 2);
        t.with("takeDown", 3);
        t.due(-2, "strikeTogether", 0, 3);
        t.due(-2, "strikeTogether", 3, 0);
    }
}

/** The sentences of rule 4 and of promises 17 to 22, each with its edges. */
final class EdgesOfPlans {
    private static final String TOWER = "beam 300 500;beam 300 500;"
            + "bell 100 2 4;bell 100 2 4;bell 60 2 4;bell 100 3 4;";
    private static final String EIGHT =
            "beam 300 50000;beam 300 50000;" + "bell 10 2 4;".repeat(8);

    private EdgesOfPlans() {
    }

    static void check() {
        plans();
        steps();
        afterEachStep();
        goal();
        bestWay();
        plannedWhereItHangs();
        setPlan();
        clearPlan();
        planConflicts();
        planUnbalanced();
        stepsToPlan();
        planStep();
    }

    private static void way(Trial t, int... steps) {
        t.due(steps.length, "stepsToPlan");
        for (int i = 0; i < steps.length; i++) {
            t.due(steps[i], "planStep", i);
        }
        t.due(-3, "planStep", steps.length);
    }

    private static void noWay(Trial t) {
        t.due(-2, "stepsToPlan");
        t.due(-2, "planStep", 0);
    }

    private static void plans() {
        Sentence.rule(4, "A bell may have a plan: a beam and a position.");
        Trial t = Trial.of(TOWER);
        t.due(-2, "clearPlan", 0);
        t.with("setPlan", 0, 1, 6);
        t.due(2, "planUnbalanced");
        t.with("setPlan", 0, 0, -6);
        t.due(1, "planUnbalanced");
        t.with("setPlan", 0, 0, -5);
        t.due(0, "planUnbalanced");
        t.due(0, "clearPlan", 0);

        Sentence.rule(4, "Plans are not checked when they are made.");
        t.with("hang", 0, 0, 0);
        t.due(1, "setPlan", 1, 0, 0);
        t.due(2, "setPlan", 2, 0, 1);
        t.due(3, "setPlan", 3, 1, 15);
        t.due(3, "planConflicts");
        t.due(2, "planUnbalanced");
    }

    /** A bell of 100 goes from 5 to 4, against a bell of 60 at -10 that is numbered last. */
    private static Trial counterweight(int limit, int bells) {
        Trial t = Trial.of("beam 300 " + limit + ";" + "bell 100 2 4;".repeat(bells - 1)
                + "bell 60 2 4;");
        t.with("hang", 0, 0, 4).with("hang", bells - 1, 0, -10).with("shift", 0, 5);
        return t.with("setPlan", 0, 0, 4);
    }

    private static void steps() {
        Sentence.rule(4, "A step is one of the following: taking down a bell that hangs (code 3 * bell)");
        Trial t = Trial.of(EIGHT);
        t.with("hang", 7, 0, 0).with("setPlan", 7, 0, 1);
        way(t, 21, 23);
        t.with("hang", 0, 0, 10).with("setPlan", 0, 0, 11).with("clearPlan", 7);
        way(t, 0, 2);

        Sentence.rule(4, "hanging a bell that does not hang at the place where it hangs at present, "
                + "that is, at the time of the query (code 3 * bell + 1, only if it hangs at present)");
        way(counterweight(500, 8), 21, 0, 2, 22);
        way(counterweight(500, 2), 3, 0, 2, 4);
        Trial shifted = counterweight(500, 2);
        shifted.with("shift", 1, -9);
        way(shifted, 3, 0, 2, 4);
        shifted.with("shift", 1, -7);
        way(shifted, 0, 2);
        Trial down = counterweight(500, 2);
        down.with("takeDown", 1);
        way(down, 0, 2);

        Sentence.rule(4, "hanging a bell that does not hang at its planned place (code 3 * bell + 2, "
                + "only if it has a plan)");
        Trial p = Trial.of(EIGHT);
        p.with("setPlan", 0, 0, 0);
        way(p, 2);
        p.with("setPlan", 7, 0, 4);
        way(p, 2, 23);
        p.with("clearPlan", 0);
        way(p, 23);
        p.with("clearPlan", 7);
        way(p);
    }

    private static void afterEachStep() {
        Sentence.rule(4, "After each step, every two bells on the same beam must be clear of each "
                + "other and every beam must be balanced.");
        noWay(counterweight(499, 2));
        way(counterweight(500, 2), 3, 0, 2, 4);
        way(counterweight(599, 2), 3, 0, 2, 4);
        way(counterweight(600, 2), 0, 2);
        Trial t = Trial.of(EIGHT);
        t.with("hang", 1, 0, 0).with("setPlan", 1, 0, -1).with("setPlan", 0, 0, 3);
        way(t, 3, 2, 5);
        t.with("setPlan", 0, 0, 4);
        way(t, 2, 3, 5);
        t.with("setPlan", 0, 1, 0);
        way(t, 2, 3, 5);
        t.with("setPlan", 0, 0, 2);
        noWay(t);
        Trial beams = Trial.of("beam 300 50000;beam 300 0;bell 10 2 4;bell 10 2 4;");
        beams.with("setPlan", 0, 1, 1).with("setPlan", 1, 1, -3);
        noWay(beams);
        Trial pair = Trial.of("beam 300 50;bell 10 2 4;bell 10 2 4;");
        pair.with("setPlan", 0, 0, 6).with("setPlan", 1, 0, -6);
        noWay(pair);
        pair.with("setPlan", 1, 0, -5);
        way(pair, 5, 2);
        pair.with("setPlan", 0, 0, 5);
        way(pair, 2, 5);
    }

    private static void goal() {
        Sentence.rule(4, "A way is a sequence of steps that leads from the present arrangement to "
                + "the goal: each bell with a plan hangs at its planned place, and each other bell "
                + "hangs at its present place or does not hang if it does not hang at present.");
        Trial t = Trial.of(TOWER);
        way(t);
        t.with("hang", 0, 0, 5);
        way(t);
        t.with("setPlan", 1, 1, 5);
        way(t, 5);
        t.with("hang", 1, 1, 4);
        way(t, 3, 5);
        t.with("clearPlan", 1);
        way(t);
        way(counterweight(500, 2), 3, 0, 2, 4);
        Trial swap = Trial.of(TOWER);
        swap.with("hang", 0, 0, 2).with("hang", 1, 0, -2);
        swap.with("setPlan", 0, 0, -2).with("setPlan", 1, 0, 2);
        way(swap, 0, 3, 2, 5);
        swap.with("clearPlan", 1);
        noWay(swap);
    }

    private static void bestWay() {
        Sentence.rule(4, "The best way is the one with the fewest steps");
        Trial t = Trial.of(EIGHT);
        t.with("hang", 0, 0, 0).with("hang", 1, 0, 10).with("setPlan", 7, 0, 5);
        way(t, 23);
        t.with("setPlan", 1, 0, 9);
        way(t, 3, 5, 23);
        Trial near = Trial.of(EIGHT);
        near.with("hang", 0, 0, 0).with("setPlan", 0, 0, -1).with("hang", 1, 0, 4);
        way(near, 0, 2);

        Sentence.rule(4, "of several, the one whose sequence of codes is lexicographically least");
        Trial p = Trial.of(EIGHT);
        for (int bell = 7; bell >= 0; bell--) {
            p.with("setPlan", bell, bell % 2, 4 * (bell / 2));
        }
        way(p, 2, 5, 8, 11, 14, 17, 20, 23);
        p.with("hang", 3, 0, -4);
        way(p, 2, 5, 8, 9, 11, 14, 17, 20, 23);
        Trial q = Trial.of(EIGHT);
        q.with("hang", 0, 0, 0).with("hang", 1, 0, 4);
        q.with("setPlan", 0, 0, 1).with("setPlan", 1, 0, 5);
        way(q, 0, 3, 2, 5);
        q.with("setPlan", 0, 0, -1).with("setPlan", 1, 0, 3);
        way(q, 0, 2, 3, 5);
    }

    private static void plannedWhereItHangs() {
        Sentence.rule(4, "(If a bell's planned place equals its present place, it is at its goal at "
                + "both.)");
        Trial t = Trial.of(TOWER);
        t.with("hang", 0, 0, 5).with("setPlan", 0, 0, 5);
        way(t);
        t.due(0, "planConflicts");
        t.with("setPlan", 0, 1, 5);
        way(t, 0, 2);
        t.with("setPlan", 0, 0, 4);
        way(t, 0, 2);
        Trial aside = counterweight(500, 2);
        aside.with("setPlan", 1, 0, -10);
        way(aside, 3, 0, 2, 4);
        aside.with("setPlan", 1, 0, -11);
        way(aside, 3, 0, 2, 5);
    }

    private static void setPlan() {
        Sentence.promise(17, "Plans a place for a bell, in place of an earlier plan.");
        Trial t = Trial.of(TOWER);
        t.with("setPlan", 0, 0, 15).with("setPlan", 0, 1, -15);
        t.due(2, "planUnbalanced");
        t.due(-2, "beamOf", 0);
        t.due(0, "clearPlan", 0);
        t.due(-2, "clearPlan", 0);
        t.due(0, "planUnbalanced");

        Sentence.promise(17, "Returns the number of bells with a plan afterwards.");
        Trial p = Trial.of(EIGHT);
        for (int bell = 0; bell < 8; bell++) {
            p.due(bell + 1, "setPlan", 7 - bell, 0, 0);
            p.due(bell + 1, "setPlan", 7 - bell, 1, bell);
        }
        p.with("hang", 0, 0, 0);
        p.due(8, "setPlan", 0, 0, 0);
    }

    private static void clearPlan() {
        Sentence.promise(18, "Removes the plan of a bell.");
        Trial t = Trial.of(TOWER);
        t.with("hang", 0, 0, 5).with("setPlan", 0, 0, 6).with("setPlan", 1, 1, 6);
        t.due(3, "planUnbalanced");
        t.with("clearPlan", 0);
        t.due(2, "planUnbalanced");
        t.due(5, "positionOf", 0);

        Sentence.promise(18, "Returns the number of bells with a plan afterwards");
        t.due(0, "clearPlan", 1);
        t.with("setPlan", 0, 0, 0).with("setPlan", 3, 0, 0).with("setPlan", 2, 0, 0);
        t.due(2, "clearPlan", 3);
        t.due(1, "clearPlan", 0);

        Sentence.promise(18, "-2 if it has no plan");
        t.due(-2, "clearPlan", 0);
        t.due(-2, "clearPlan", 1);
        t.due(0, "clearPlan", 2);
    }

    private static void planConflicts() {
        Sentence.promise(19, "Counts the pairs of bells that would not be clear of each other if the "
                + "goal of the plans (see 4) were reached.", "Returns the number of pairs.");
        Trial t = Trial.of(TOWER);
        t.due(0, "planConflicts");
        t.with("setPlan", 0, 0, 1).with("setPlan", 1, 0, 4);
        t.due(1, "planConflicts");
        t.with("setPlan", 1, 0, 5);
        t.due(0, "planConflicts");
        t.with("setPlan", 1, 0, -2);
        t.due(1, "planConflicts");
        t.with("setPlan", 1, 0, -3);
        t.due(0, "planConflicts");
        t.with("setPlan", 1, 1, 1);
        t.due(0, "planConflicts");
        t.with("hang", 3, 0, 5);
        t.due(1, "planConflicts");
        t.with("setPlan", 3, 0, 6);
        t.due(0, "planConflicts");
        t.with("hang", 2, 0, 0);
        t.due(1, "planConflicts");
        t.with("takeDown", 2);
        t.due(0, "planConflicts");
        Trial p = Trial.of(EIGHT);
        for (int bell = 0; bell < 8; bell++) {
            p.due(bell * (bell - 1) / 2, "planConflicts");
            p.with("setPlan", bell, 0, -15);
        }
        p.due(28, "planConflicts");
    }

    private static void planUnbalanced() {
        Sentence.promise(20, "Returns the beams that would not be balanced if the goal of the plans "
                + "were reached.", "Returns a bit mask; bit k stands for beam k.");
        Trial t = Trial.of("beam 300 0;beam 300 10;beam 300 20;beam 300 30;"
                + "bell 10 2 4;".repeat(4));
        t.due(0, "planUnbalanced");
        for (int beam = 0; beam < 4; beam++) {
            t.with("setPlan", beam, beam, beam);
            t.due(0, "planUnbalanced");
            t.with("setPlan", beam, beam, -beam - 1);
            t.due(1 << beam, "planUnbalanced");
            t.with("setPlan", beam, beam, beam + 1);
            t.due(1 << beam, "planUnbalanced");
            t.with("clearPlan", beam);
        }
        for (int beam = 0; beam < 4; beam++) {
            t.with("setPlan", beam, beam, 15);
        }
        t.due(15, "planUnbalanced");
        Trial p = Trial.of(TOWER);
        p.with("hang", 0, 0, 5).with("setPlan", 1, 0, 1);
        p.due(1, "planUnbalanced");
        p.with("setPlan", 0, 0, 4);
        p.due(0, "planUnbalanced");
        p.with("clearPlan", 0).with("setPlan", 1, 0, 0);
        p.due(0, "planUnbalanced");
    }

    private static void stepsToPlan() {
        Sentence.promise(21, "Returns the number of steps of the best way to the goal of the plans.",
                "Returns the number of steps");
        Trial t = Trial.of(EIGHT);
        t.due(0, "stepsToPlan");
        for (int bell = 0; bell < 8; bell++) {
            t.with("hang", bell, 0, 4 * bell - 14).with("setPlan", bell, 1, 4 * bell - 14);
            t.due(2 * bell + 2, "stepsToPlan");
        }
        way(t, 0, 2, 3, 5, 6, 8, 9, 11, 12, 14, 15, 17, 18, 20, 21, 23);
        t.with("takeDown", 3);
        t.due(15, "stepsToPlan");
        counterweight(500, 2).due(4, "stepsToPlan");

        Sentence.promise(21, "-2 if there is no way");
        t.with("setPlan", 0, 1, -13);
        t.due(-2, "stepsToPlan");
        t.with("setPlan", 0, 1, -14);
        t.due(15, "stepsToPlan");
        counterweight(499, 2).due(-2, "stepsToPlan");
        Trial stuck = Trial.of("beam 300 500;bell 100 2 4;bell 100 2 4;");
        stuck.with("hang", 0, 0, 5).with("hang", 1, 0, -5);
        stuck.with("shift", 0, 10).with("shift", 1, -10).with("setPlan", 0, 0, 15);
        stuck.due(0, "planConflicts");
        stuck.due(0, "planUnbalanced");
        stuck.due(-2, "stepsToPlan");
        stuck.with("setPlan", 0, 0, 10);
        stuck.due(0, "stepsToPlan");
    }

    private static void planStep() {
        Sentence.promise(22, "Returns a step of the best way.",
                "- `index`: 0 for the first step, 1 for the second one, and so on; 0 or more",
                "Returns the code of the step");
        Trial t = counterweight(500, 2);
        t.due(3, "planStep", 0);
        t.due(0, "planStep", 1);
        t.due(2, "planStep", 2);
        t.due(4, "planStep", 3);
        t.due(Trial.ARGUMENT, "planStep", -1);
        t.due(Trial.ARGUMENT, "planStep", Integer.MIN_VALUE);

        Sentence.promise(22, "-3 if it has no such step");
        t.due(-3, "planStep", 4);
        t.due(-3, "planStep", 5);
        t.due(-3, "planStep", Integer.MAX_VALUE);
        Trial none = Trial.of(EIGHT);
        none.due(-3, "planStep", 0);
        none.due(-3, "planStep", Integer.MAX_VALUE);

        Sentence.promise(22, "-2 if there is no way");
        Trial p = counterweight(499, 2);
        p.due(-2, "planStep", 0);
        p.due(-2, "planStep", 99);
        p.due(-2, "planStep", Integer.MAX_VALUE);
        p.due(Trial.ARGUMENT, "planStep", -1);
    }
}

import java.util.function.IntSupplier;

/**
 * Long runs of calls on the class and on TowerModel side by side. The numbers come from a
 * generator with a fixed seed, so every run of this test makes the same calls.
 */
public final class ModelTest {
    private static final int RUNS = 400;
    private static final int CALLS = 480;
    private static final int TEXTS = 20000;

    private long seed;
    private BellTowerPlanner planner;
    private TowerModel model;
    private int bells;
    private int beams;
    private int focus;
    private boolean tight;
    private final StringBuilder history = new StringBuilder();

    private ModelTest(long seed) {
        this.seed = seed;
    }

    public static void main(String[] args) {
        int runs = args.length > 0 ? Integer.parseInt(args[0]) : RUNS;
        long base = args.length > 1 ? Long.parseLong(args[1]) : 0;
        for (int run = 0; run < runs; run++) {
            new ModelTest(base + run).run();
        }
        new ModelTest(base - 1).runTexts(TEXTS);
        Check.finish();
    }

    private int below(int bound) {
        seed = seed * 6364136223846793005L + 1442695040888963407L;
        return (int) ((seed >>> 33) % bound);
    }

    private int between(int least, int greatest) {
        return least + below(greatest - least + 1);
    }

    private void same(String call, IntSupplier ours, IntSupplier theirs) {
        int got = Check.answer(ours);
        int due = Check.answer(theirs);
        history.append(call).append(" = ").append(due).append('\n');
        int wrongBefore = Check.wrongSoFar();
        Check.same(call, due, got);
        if (Check.wrongSoFar() == 1 && wrongBefore == 0) {
            System.out.println("the run so far:\n" + history);
        }
    }

    // ---- texts

    private String towerText() {
        StringBuilder text = new StringBuilder();
        boolean edges = below(6) == 0;
        tight = below(2) == 0;
        focus = below(7);
        bells = below(8) == 0 ? 8 : focus == 0 ? between(1, 6) : between(3, 6);
        beams = tight ? between(1, 2) : between(1, 4);
        for (int i = 0; i < beams; i++) {
            int limit = below(8) == 0 ? 0 : between(0, edges ? 50000 : tight ? 2000 : 6000);
            statement(text, "beam", between(300, edges ? 5000 : 900), limit);
        }
        int samePeriod = between(4, 12);
        for (int i = 0; i < bells; i++) {
            int period = below(2) == 0 ? samePeriod : between(4, 40);
            statement(text, "bell", between(10, edges ? 3000 : tight ? 150 : 600),
                    between(2, edges ? 10 : tight ? 2 : 4), period);
        }
        for (int i = below(7); i > 0; i--) {
            int from = between(0, 1439);
            int to = below(4) == 0 ? between(from + 1, 1440) : Math.min(1440, from + 1 + below(90));
            statement(text, "quiet", from, to);
        }
        for (int i = below(9); i > 0; i--) {
            statement(text, "rope", between(100, edges ? 9999 : 2500));
        }
        return text.toString();
    }

    private void statement(StringBuilder text, String keyword, int... numbers) {
        text.append(keyword);
        for (int number : numbers) {
            text.append(text.length() % 3 == 0 ? "\n" : " ");
            text.append(below(20) == 0 && number < 10000 ? "0" : "").append(number);
        }
        text.append(";");
    }

    private String damaged(String text) {
        StringBuilder damaged = new StringBuilder(text);
        String[] parts = {";", " ", "\n", "beam 500 10;", "bell 100 2 8;", "quiet 5 9;",
            "quiet 9 9;", "quiet 1439 0;", "rope 100;", "rope 99;", "bel", "b", "9", "000000",
            "123456", "rope 100;rope 100;rope 9999;rope 5000;rope 100;",
            "quiet 0 1;quiet 1 2;quiet 3 1440;quiet 1439 1440;", "beam 300 0;beam 5000 50000;",
            "bell 10 2 4;bell 3000 10 40;bell 9 2 4;", "beam 299 0;", "bell 10 11 4;", "\t", "Z", "-", "\u00ff", "\u0080", "{", "`", "/", ":", "quiets", "0"};
        for (int i = between(1, 2); i > 0; i--) {
            int at = between(0, damaged.length());
            if (below(3) == 0 && damaged.length() > 0) {
                damaged.delete(at, Math.min(damaged.length(), at + between(1, 5)));
            } else {
                damaged.insert(at, parts[below(parts.length)]);
            }
        }
        if (damaged.length() > 380) {
            damaged.setLength(380);
        }
        return damaged.toString();
    }

    private void loadBoth(String text) {
        String cut = text.length() > 400 ? text.substring(0, text.lastIndexOf(';', 399) + 1) : text;
        history.append("text ").append(cut).append('\n');
        Check.write(planner, cut);
        for (int i = 0; i < cut.length(); i += 20) {
            int[] words = new int[5];
            for (int k = 0; k < 20; k++) {
                int sign = i + k < cut.length() ? cut.charAt(i + k) & 255 : 0;
                words[k / 4] = words[k / 4] << 8 | sign;
            }
            model.append(words);
        }
        model.truncate(cut.length());
        same("load()", planner::load, model::load);
        same("errorPosition()", planner::errorPosition, model::errorPosition);
    }

    private void runTexts(int texts) {
        planner = new BellTowerPlanner();
        model = new TowerModel();
        for (int i = 0; i < texts; i++) {
            history.setLength(0);
            loadBoth(damaged(below(10) == 0 ? "" : towerText()));
        }
    }

    // ---- runs

    private void run() {
        planner = new BellTowerPlanner();
        model = new TowerModel();
        bells = 8;
        beams = 4;
        for (int i = below(4); i > 0; i--) {
            call(below(49));
        }
        emptyBuffers();
        loadBoth(towerText());
        for (int i = 0; i < CALLS; i++) {
            call(nextMethod());
            if (below(12) == 0) {
                hangSomewhere();
            }
            if (below(400) == 0) {
                emptyBuffers();
                loadBoth(towerText());
            }
        }
    }

    /** A run keeps mostly to one part of the document, so that its calls meet one another. */
    private int nextMethod() {
        switch (below(3) == 0 ? 0 : focus) {
            case 1:
                return between(5, 15);
            case 2:
                return below(2) == 0 ? 16 : between(16, 21);
            case 3:
                return below(4) == 0 ? 22 : between(22, 31);
            case 4:
                return below(4) == 0 ? 32 : between(32, 42);
            case 5:
                return between(43, 47);
            case 6:
                return below(2) == 0 ? 48 : below(2) == 0 ? 33 : 7;
            default:
                int method = below(49);
                return method == 6 && below(2) == 0 ? 5 : method;
        }
    }

    private void hangSomewhere() {
        int b = below(bells);
        int e = below(beams);
        int first = between(-15, 15);
        for (int i = 0; i < 31; i++) {
            int x = (first + 15 + i) % 31 - 15;
            int wrongBefore = Check.wrongSoFar();
            same("hang(" + b + ", " + e + ", " + x + ")", () -> planner.hang(b, e, x),
                    () -> model.hang(b, e, x));
            if (model.beamOf(b) >= 0 || Check.wrongSoFar() > wrongBefore) {
                return;
            }
        }
    }

    private void emptyBuffers() {
        planner.truncate(0);
        model.truncate(0);
    }

    private int bell() {
        return below(60) == 0 ? (below(2) == 0 ? -1 : bells) : below(bells);
    }

    private int beam() {
        return below(60) == 0 ? (below(2) == 0 ? -1 : beams) : below(beams);
    }

    private int from(int least, int greatest) {
        switch (below(40)) {
            case 0:
                return least - 1;
            case 1:
                return greatest + 1;
            case 2:
                return least;
            case 3:
                return greatest;
            default:
                return between(least, greatest);
        }
    }

    private int tick() {
        return below(3) == 0 ? from(0, 9999) : from(0, 60);
    }

    private void call(int method) {
        if (method < 5) {
            callText(method);
        } else if (method < 16) {
            callHanging(method);
        } else if (method < 22) {
            callPlans(method);
        } else if (method < 32) {
            callSwings(method);
        } else if (method < 43) {
            callChimes(method);
        } else {
            callRopes(method);
        }
    }

    private void callText(int method) {
        BellTowerPlanner p = planner;
        TowerModel m = model;
        int a = between(0, 1 << 30) << 1;
        int length = between(-1, 30);
        switch (method) {
            case 0:
                same("append(" + a + ", 1, 2, 3, 4)", () -> p.append(a, 1, 2, 3, 4),
                        () -> m.append(a, 1, 2, 3, 4));
                break;
            case 1:
                same("truncate(" + length + ")", () -> p.truncate(length),
                        () -> m.truncate(length));
                break;
            case 2:
                if (below(10) == 0) {
                    same("load()", p::load, m::load);
                }
                break;
            default:
                same("errorPosition()", p::errorPosition, m::errorPosition);
                break;
        }
    }

    private void callHanging(int method) {
        BellTowerPlanner p = planner;
        TowerModel m = model;
        int b = bell();
        int e = beam();
        int x = from(-15, 15);
        int k = from(0, 8);
        String be = "(" + b + ", " + e + ")";
        switch (method) {
            case 5:
                same("hang(" + b + ", " + e + ", " + x + ")", () -> p.hang(b, e, x),
                        () -> m.hang(b, e, x));
                break;
            case 6:
                same("takeDown(" + b + ")", () -> p.takeDown(b), () -> m.takeDown(b));
                break;
            case 7:
                same("shift(" + b + ", " + x + ")", () -> p.shift(b, x), () -> m.shift(b, x));
                break;
            case 8:
                same("beamOf(" + b + ")", () -> p.beamOf(b), () -> m.beamOf(b));
                break;
            case 9:
                same("positionOf(" + b + ")", () -> p.positionOf(b), () -> m.positionOf(b));
                break;
            case 10:
                same("torque(" + e + ")", () -> p.torque(e), () -> m.torque(e));
                break;
            case 11:
                same("bellAt(" + e + ", " + k + ")", () -> p.bellAt(e, k), () -> m.bellAt(e, k));
                break;
            case 12:
                same("freePositions" + be, () -> p.freePositions(b, e),
                        () -> m.freePositions(b, e));
                break;
            case 13:
                same("bestPosition" + be, () -> p.bestPosition(b, e), () -> m.bestPosition(b, e));
                break;
            case 14:
                same("mirroredTorque(" + e + ")", () -> p.mirroredTorque(e),
                        () -> m.mirroredTorque(e));
                break;
            default:
                same("mirroredBells(" + e + ")", () -> p.mirroredBells(e),
                        () -> m.mirroredBells(e));
                break;
        }
    }

    private void callPlans(int method) {
        BellTowerPlanner p = planner;
        TowerModel m = model;
        int b = bell();
        int e = beam();
        int x = from(-15, 15);
        int k = from(0, 12);
        switch (method) {
            case 16:
                same("setPlan(" + b + ", " + e + ", " + x + ")", () -> p.setPlan(b, e, x),
                        () -> m.setPlan(b, e, x));
                break;
            case 17:
                same("clearPlan(" + b + ")", () -> p.clearPlan(b), () -> m.clearPlan(b));
                break;
            case 18:
                same("planConflicts()", p::planConflicts, m::planConflicts);
                break;
            case 19:
                same("planUnbalanced()", p::planUnbalanced, m::planUnbalanced);
                break;
            case 20:
                same("stepsToPlan()", p::stepsToPlan, m::stepsToPlan);
                break;
            default:
                same("planStep(" + k + ")", () -> p.planStep(k), () -> m.planStep(k));
                break;
        }
    }

    private void callSwings(int method) {
        BellTowerPlanner p = planner;
        TowerModel m = model;
        int b = bell();
        int o = bell();
        int a = below(2) == 0 ? from(1, 4) : from(1, 15);
        int t = tick();
        int s = below(3) == 0 ? from(0, 999) : from(0, 60);
        int to = tick();
        switch (method) {
            case 22:
                same("startSwing(" + b + ", " + s + ", " + a + ")", () -> p.startSwing(b, s, a),
                        () -> m.startSwing(b, s, a));
                break;
            case 23:
                same("stopSwing(" + b + ")", () -> p.stopSwing(b), () -> m.stopSwing(b));
                break;
            case 24:
                same("offset(" + b + ", " + t + ")", () -> p.offset(b, t), () -> m.offset(b, t));
                break;
            case 25:
                same("gap(" + b + ", " + o + ", " + t + ")", () -> p.gap(b, o, t),
                        () -> m.gap(b, o, t));
                break;
            case 26:
                same("firstCollision()", p::firstCollision, m::firstCollision);
                break;
            case 27:
                same("collidingBells()", p::collidingBells, m::collidingBells);
                break;
            case 28:
                same("safeStart(" + b + ", " + a + ")", () -> p.safeStart(b, a),
                        () -> m.safeStart(b, a));
                break;
            case 29:
                same("safeAmplitude(" + b + ")", () -> p.safeAmplitude(b),
                        () -> m.safeAmplitude(b));
                break;
            case 30:
                same("strikes(" + b + ", " + t + ", " + to + ")", () -> p.strikes(b, t, to),
                        () -> m.strikes(b, t, to));
                break;
            default:
                same("strikeTogether(" + b + ", " + o + ")", () -> p.strikeTogether(b, o),
                        () -> m.strikeTogether(b, o));
                break;
        }
    }

    private void callChimes(int method) {
        BellTowerPlanner p = planner;
        TowerModel m = model;
        int b = bell();
        int o = bell();
        int minute = from(0, 1439);
        int interval = below(2) == 0 ? from(1, 90) : from(1, 1440);
        switch (method) {
            case 32:
                same("setChime(" + b + ", " + minute + ", " + interval + ")",
                        () -> p.setChime(b, minute, interval),
                        () -> m.setChime(b, minute, interval));
                break;
            case 33:
                same("clearChime(" + b + ")", () -> p.clearChime(b), () -> m.clearChime(b));
                break;
            case 34:
                same("isQuiet(" + minute + ")", () -> p.isQuiet(minute) ? 1 : 0,
                        () -> m.isQuiet(minute));
                break;
            case 35:
                same("quietMinutes()", p::quietMinutes, m::quietMinutes);
                break;
            case 36:
                same("longestLoud()", p::longestLoud, m::longestLoud);
                break;
            case 37:
                same("soundsAt(" + minute + ")", () -> p.soundsAt(minute),
                        () -> m.soundsAt(minute));
                break;
            case 38:
                same("soundsPerDay(" + b + ")", () -> p.soundsPerDay(b), () -> m.soundsPerDay(b));
                break;
            case 39:
                same("nextSound(" + minute + ")", () -> p.nextSound(minute),
                        () -> m.nextSound(minute));
                break;
            case 40:
                same("busiestMinute()", p::busiestMinute, m::busiestMinute);
                break;
            case 41:
                same("soundTogether(" + b + ", " + o + ")", () -> p.soundTogether(b, o),
                        () -> m.soundTogether(b, o));
                break;
            default:
                same("leastDelay(" + b + ")", () -> p.leastDelay(b), () -> m.leastDelay(b));
                break;
        }
    }

    private void callRopes(int method) {
        BellTowerPlanner p = planner;
        TowerModel m = model;
        int b = bell();
        switch (method) {
            case 43:
                same("ropeLength(" + b + ")", () -> p.ropeLength(b), () -> m.ropeLength(b));
                break;
            case 44:
                same("fewestPieces()", p::fewestPieces, m::fewestPieces);
                break;
            case 45:
                same("pieceOf(" + b + ")", () -> p.pieceOf(b), () -> m.pieceOf(b));
                break;
            case 46:
                same("waste()", p::waste, m::waste);
                break;
            case 47:
                same("extraPiece()", p::extraPiece, m::extraPiece);
                break;
            default:
                same("undo()", p::undo, m::undo);
                break;
        }
    }
}

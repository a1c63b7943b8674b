/** Promises 1 to 5: a new object, append, truncate, load and errorPosition. */
public final class TextTest {
    private static final String BEAM = "beam 300 0;";
    private static final String BELL = "bell 10 2 4;";
    private static final String QUIET = "quiet 0 1;";
    private static final String ROPE = "rope 100;";

    private TextTest() {
    }

    public static void main(String[] args) {
        newObject();
        appending();
        truncating();
        correctTexts();
        wrongTokens();
        wrongNumbers();
        wrongCounts();
        wrongOrder();
        loadingAgain();
        loadingFullTexts();
        Check.finish();
    }

    private static void newObject() {
        BellTowerPlanner p = new BellTowerPlanner();
        Check.due("errorPosition() at first", -1, p::errorPosition);
        Check.due("truncate(0) at first", 0, () -> p.truncate(0));
        Check.due("truncate(1) at first", Check.ARGUMENT, () -> p.truncate(1));
        Check.due("undo() at first", Check.STATE, p::undo);
    }

    private static void appending() {
        BellTowerPlanner p = new BellTowerPlanner();
        for (int length = 20; length <= 400; length += 20) {
            Check.due("append to " + length, length, () -> p.append(-1, 0, 1, 2, 3));
        }
        Check.due("append above 400", Check.STATE, () -> p.append(0, 0, 0, 0, 0));
        Check.due("truncate(401)", Check.ARGUMENT, () -> p.truncate(401));
        Check.due("truncate(381)", 381, () -> p.truncate(381));
        Check.due("append to 401", Check.STATE, () -> p.append(0, 0, 0, 0, 0));
        Check.due("truncate(380)", 380, () -> p.truncate(380));
        Check.due("append to 400", 400, () -> p.append(0, 0, 0, 0, 0));
        bytesInOrder();
    }

    private static void bytesInOrder() {
        BellTowerPlanner p = new BellTowerPlanner();
        p.append(0x6265616d, 0x20333030, 0x20303b62, 0x656c6c20, 0x31302032);
        p.append(0x20343b80, 0, 0, 0, 0);
        Check.due("truncate(24)", 24, () -> p.truncate(24));
        Check.due("a byte above 127", -11, p::load);
        Check.due("its position", 23, p::errorPosition);
        p.append(0x6265616d, 0x20333030, 0x20303b62, 0x656c6c20, 0x31302032);
        p.append(0x20343b80, 0, 0, 0, 0);
        Check.due("truncate(23)", 23, () -> p.truncate(23));
        Check.due("the text before it", 1, p::load);
    }

    private static void truncating() {
        BellTowerPlanner p = new BellTowerPlanner();
        p.append(0, 0, 0, 0, 0);
        Check.due("truncate(-1)", Check.ARGUMENT, () -> p.truncate(-1));
        Check.due("truncate(21)", Check.ARGUMENT, () -> p.truncate(21));
        Check.due("truncate(min)", Check.ARGUMENT, () -> p.truncate(Integer.MIN_VALUE));
        Check.due("truncate(20)", 20, () -> p.truncate(20));
        Check.due("truncate(7)", 7, () -> p.truncate(7));
        Check.due("truncate(8)", Check.ARGUMENT, () -> p.truncate(8));
        Check.due("append at 7", 27, () -> p.append(0, 0, 0, 0, 0));
    }

    private static void text(String text, int result, int position) {
        BellTowerPlanner p = new BellTowerPlanner();
        Check.write(p, text);
        Check.due("load() of " + text, result, p::load);
        Check.due("errorPosition() of " + text, position, p::errorPosition);
        Check.due("truncate(1) after load()", Check.ARGUMENT, () -> p.truncate(1));
        Check.due("torque(0) of " + text, result < 0 ? Check.STATE : 0, () -> p.torque(0));
    }

    private static void correctTexts() {
        text(BEAM + BELL, 1, -1);
        text("beam 5000 50000;bell 3000 10 40;", 1, -1);
        text("beam300 0;bell10 2 4;", 1, -1);
        text("\n beam\n300\n\n0 ; bell 10  2 4;\n ", 1, -1);
        text("beam 00300 00000;bell 00010 00002 00004;rope 00100;", 1, -1);
        text(BEAM + BELL + "quiet 0 1440;quiet 1439 1440;quiet 0 1;", 1, -1);
        text(BEAM + BELL + "rope 100;rope 9999;", 1, -1);
        text(BEAM + BELL + QUIET + ROPE, 1, -1);
        text(BEAM.repeat(4) + BELL.repeat(8) + QUIET.repeat(6) + ROPE.repeat(8), 8, -1);
        text(BEAM + BELL.repeat(5), 5, -1);
    }

    private static void wrongTokens() {
        text("", -11, 0);
        text(" \n ", -11, 3);
        text(BEAM, -11, 11);
        text(BEAM + "  ", -11, 13);
        text("beam 300 0;bell 10 2 4", -11, 22);
        text("beam 300 0;bell 10 2 4 ", -11, 23);
        text("beam 300 0;bell 10 2 4;rope", -11, 27);
        text(";", -11, 0);
        text("300", -11, 0);
        text("beam;", -11, 4);
        text("beam 300;", -11, 8);
        text("beam 300 0 0;", -11, 11);
        text("beam 300 0 bell", -11, 11);
        text("beam 300 beam", -11, 9);
        text("beam\t300 0;", -11, 4);
        text("beam 300\r0;", -11, 8);
        text("Beam 300 0;", -11, 0);
        text("beams 300 0;", -11, 0);
        text("bea m300 0;", -11, 0);
        text(BEAM + "bellz 10 2 4;", -11, 11);
        text(BEAM + "bella 10 2 4;", -11, 11);
        text(BEAM + "aell 10 2 4;", -11, 11);
        text("beam 300 0;;", -11, 11);
        text("beam -300 0;", -11, 5);
        text("beam 300,0;", -11, 8);
        text(BEAM + BELL + "x", -11, 23);
        text(BEAM + BELL + "7", -11, 23);
        text(BEAM + BELL + "\u0000", -11, 23);
        text(BEAM + "\u00e2ell 10 2 4;", -11, 11);
        text("beam 300 000000;", -11, 9);
        text("beam 000300 0;", -11, 5);
        text("beam 300 999999999999;", -11, 9);
        text("123456", -11, 0);
    }

    private static void wrongNumbers() {
        text("beam 299 0;", -12, 5);
        text("beam 5001 0;", -12, 5);
        text("beam 300 50001;", -12, 9);
        text("beam 300 99999", -12, 9);
        text("beam 299 0x", -12, 5);
        text(BEAM + "bell 9 2 4;", -12, 16);
        text(BEAM + "bell 3001 2 4;", -12, 16);
        text(BEAM + "bell 10 1 4;", -12, 19);
        text(BEAM + "bell 10 11 4;", -12, 19);
        text(BEAM + "bell 10 2 3;", -12, 21);
        text(BEAM + "bell 10 2 41;", -12, 21);
        text(BEAM + BELL + "quiet 1440 1440;", -12, 29);
        text(BEAM + BELL + "quiet 0 0;", -12, 31);
        text(BEAM + BELL + "quiet 7 0;", -12, 31);
        text(BEAM + BELL + "quiet 0 1441;", -12, 31);
        text(BEAM + BELL + "quiet 9 9;", -13, 31);
        text(BEAM + BELL + "quiet 9 8;", -13, 31);
        text(BEAM + BELL + "quiet 1439 1439;", -13, 34);
        text(BEAM + BELL + "quiet 0 1;quiet 1 1", -13, 41);
        text(BEAM + BELL + "rope 99;", -12, 28);
        text(BEAM + BELL + "rope 10000;", -12, 28);
    }

    private static void wrongCounts() {
        text(BEAM.repeat(5), -14, 44);
        text(BEAM.repeat(4) + "beam x", -14, 44);
        text(BEAM + BELL.repeat(9), -14, 11 + 96);
        text(BEAM + BELL + QUIET.repeat(7), -14, 23 + 60);
        text(BEAM + BELL + ROPE.repeat(9), -14, 23 + 72);
        text(BEAM + BELL.repeat(8) + "bells", -11, 11 + 96);
    }

    private static void wrongOrder() {
        text(BELL, -11, 0);
        text(QUIET, -11, 0);
        text(ROPE, -11, 0);
        text(BEAM + QUIET, -11, 11);
        text(BEAM + ROPE, -11, 11);
        text(BEAM + BELL + BEAM, -11, 23);
        text(BEAM.repeat(4) + BELL + BEAM, -11, 56);
        text(BEAM + BELL + QUIET + BELL, -11, 33);
        text(BEAM + BELL + ROPE + QUIET, -11, 32);
        text(BEAM + BELL + ROPE + BELL, -11, 32);
        text(BEAM + BELL + QUIET.repeat(6) + ROPE + QUIET, -11, 92);
    }

    private static void loadingFullTexts() {
        BellTowerPlanner p = new BellTowerPlanner();
        for (int i = 0; i < 3; i++) {
            Check.write(p, BEAM.repeat(4) + BELL.repeat(8) + QUIET.repeat(6) + ROPE.repeat(8));
            Check.due("load() of a full text", 8, p::load);
            Check.due("quietMinutes() of it", 1, p::quietMinutes);
            Check.write(p, BEAM + BELL + QUIET.repeat(6) + ROPE.repeat(8) + ROPE);
            Check.due("load() of too full a text", -14, p::load);
        }
        Check.write(p, BEAM + BELL + "quiet 1439 1440;");
        Check.due("load() of a short text", 1, p::load);
        Check.due("quietMinutes() of the last", 1, p::quietMinutes);
        Check.due("isQuiet(0)", 0, () -> p.isQuiet(0) ? 1 : 0);
        Check.due("isQuiet(1439)", 1, () -> p.isQuiet(1439) ? 1 : 0);
        Check.due("beam 1", Check.ARGUMENT, () -> p.torque(1));
        Check.due("bell 1", Check.ARGUMENT, () -> p.beamOf(1));
        p.hang(0, 0, 0);
        Check.due("no rope piece", -2, p::fewestPieces);
        Check.write(p, BEAM + BELL);
        Check.due("load() without quiet hours", 1, p::load);
        Check.due("no quiet minute", 0, p::quietMinutes);
        Check.due("extraPiece() of no bell", 0, p::extraPiece);
    }

    private static void loadingAgain() {
        BellTowerPlanner p = Check.tower("beam 300 500;beam 300 0;bell 100 2 4;bell 100 2 4;");
        Check.due("hang(0, 0, 5)", 1, () -> p.hang(0, 0, 5));
        p.setPlan(0, 1, 0);
        p.startSwing(0, 0, 1);
        p.setChime(0, 0, 1);
        Check.write(p, "beam 300 0;bell 9 2 4;");
        Check.due("load() of a wrong text", -12, p::load);
        Check.due("errorPosition()", 16, p::errorPosition);
        Check.due("torque(0) of the tower before", 500, () -> p.torque(0));
        Check.due("undo() of the tower before", 3, p::undo);
        Check.due("errorPosition() after undo()", 16, p::errorPosition);
        p.setChime(0, 0, 1);
        Check.write(p, "beam 300 900;bell 50 3 8;bell 50 3 8;bell 50 3 8;quiet 0 2;");
        Check.due("load() of another text", 3, p::load);
        Check.due("errorPosition() after it", -1, p::errorPosition);
        Check.due("undo() after it", -2, p::undo);
        Check.due("beamOf(0)", -2, () -> p.beamOf(0));
        Check.due("torque(0)", 0, () -> p.torque(0));
        Check.due("torque(1)", Check.ARGUMENT, () -> p.torque(1));
        Check.due("beamOf(2)", -2, () -> p.beamOf(2));
        Check.due("quietMinutes()", 2, p::quietMinutes);
        Check.due("clearPlan(0)", -2, () -> p.clearPlan(0));
        Check.due("stopSwing(0)", -2, () -> p.stopSwing(0));
        Check.due("clearChime(0)", -2, () -> p.clearChime(0));
        Check.due("hang(1, 0, 6)", 1, () -> p.hang(1, 0, 6));
        Check.due("torque(0) with the new weight", 300, () -> p.torque(0));
        Check.due("load() of nothing", -11, p::load);
        Check.due("torque(0) after it", 300, () -> p.torque(0));
    }
}

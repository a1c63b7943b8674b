/** Promises 44 to 48: ropes, the best cutting and the extra piece. */
public final class RopeTest {
    private static final String BELLS = "beam 500 50000;beam 1000 50000;"
            + "bell 10 2 4;bell 10 2 4;bell 10 2 4;bell 10 2 4;";
    private static final String TOWER = BELLS + "rope 700;rope 1300;rope 560;rope 560;";

    private RopeTest() {
    }

    public static void main(String[] args) {
        lengths();
        noBell();
        cuttings();
        noCutting();
        leastSequence();
        fewestBeforeSequence();
        eightBells();
        longRopes();
        Check.finish();
    }

    private static void cutting(String name, BellTowerPlanner p, int pieces, int waste,
            int... pieceOf) {
        Check.due(name + ": fewestPieces()", pieces, p::fewestPieces);
        Check.due(name + ": waste()", waste, p::waste);
        Check.due(name + ": extraPiece()", 0, p::extraPiece);
        for (int bell = 0; bell < pieceOf.length; bell++) {
            int number = bell;
            Check.due(name + ": pieceOf(" + bell + ")", pieceOf[bell], () -> p.pieceOf(number));
        }
    }

    private static void lengths() {
        BellTowerPlanner p = Check.tower(TOWER);
        Check.due("a bell that does not hang", -2, () -> p.ropeLength(0));
        p.hang(0, 0, 0);
        Check.due("at 0", 550, () -> p.ropeLength(0));
        p.hang(1, 0, -15);
        Check.due("at -15", 700, () -> p.ropeLength(1));
        p.hang(2, 1, 15);
        Check.due("at 15 of the other beam", 1200, () -> p.ropeLength(2));
    }

    private static void noBell() {
        BellTowerPlanner p = Check.tower(TOWER);
        cutting("no bell", p, 0, 0, -2, -2, -2, -2);
        BellTowerPlanner bare = Check.tower(BELLS);
        cutting("no bell and no piece", bare, 0, 0, -2, -2, -2, -2);
    }

    private static void cuttings() {
        BellTowerPlanner p = Check.tower(TOWER);
        p.hang(0, 0, 0);
        cutting("550", p, 1, 150, 0, -2, -2, -2);
        p.hang(1, 0, -15);
        cutting("550 and 700", p, 1, 50, 1, 1, -2, -2);
        p.hang(2, 0, 5);
        cutting("550, 700 and 600", p, 2, 150, 0, 1, 1, -2);
        p.hang(3, 0, 10);
        cutting("550, 700, 600 and 650", p, 3, 60, 2, 0, 1, 1);
        p.takeDown(1);
        cutting("550, 600 and 650", p, 2, 200, 0, -2, 1, 1);
        p.takeDown(0);
        p.takeDown(2);
        p.takeDown(3);
        cutting("no bell any more", p, 0, 0, -2, -2, -2, -2);
    }

    private static void noCutting() {
        BellTowerPlanner p = Check.tower(TOWER);
        p.hang(0, 0, -4);
        p.hang(1, 0, -15);
        p.hang(2, 0, 5);
        p.hang(3, 0, 10);
        Check.due("590, 700, 600 and 650", -2, p::fewestPieces);
        Check.due("waste()", -2, p::waste);
        Check.due("pieceOf(0)", -3, () -> p.pieceOf(0));
        Check.due("pieceOf(3)", -3, () -> p.pieceOf(3));
        Check.due("for the shortest rope", 590, p::extraPiece);
        p.takeDown(2);
        Check.due("pieceOf() of a bell that does not hang", -2, () -> p.pieceOf(2));
        cutting("590, 700 and 650", p, 2, 60, 1, 0, -2, 1);
        BellTowerPlanner bare = Check.tower(BELLS);
        bare.hang(0, 0, 0);
        bare.hang(1, 1, 0);
        Check.due("no piece", -2, bare::fewestPieces);
        Check.due("one piece for both", 1600, bare::extraPiece);
        extraForLongRope();
    }

    private static void extraForLongRope() {
        BellTowerPlanner p = Check.tower(BELLS + "rope 560;rope 1199;");
        p.hang(0, 0, 0);
        p.hang(1, 1, 15);
        Check.due("the long rope fits no piece", 1200, p::extraPiece);
        p.hang(2, 0, 10);
        Check.due("two ropes into 1199", 1200, p::extraPiece);
        p.hang(3, 0, -10);
        Check.due("550, 1200, 650 and 650", 1200 + 650, p::extraPiece);
        Check.due("no cutting without it", -2, p::fewestPieces);
    }

    private static void leastSequence() {
        BellTowerPlanner p = Check.tower(BELLS + "rope 600;rope 600;rope 600;rope 600;");
        p.hang(3, 0, 0);
        p.hang(0, 0, -5);
        p.hang(2, 0, 5);
        cutting("each on its own", p, 3, 1800 - 1750, 0, -2, 1, 2);
        BellTowerPlanner q = Check.tower(BELLS + "rope 560;rope 610;rope 600;");
        q.hang(0, 0, 5);
        q.hang(1, 0, 0);
        q.hang(2, 0, -5);
        cutting("bell 1 must leave the longer ones", q, 3, 20, 1, 0, 2, -2);
    }

    private static void fewestBeforeSequence() {
        BellTowerPlanner p = Check.tower(BELLS + "rope 9999;rope 560;rope 560;rope 1100;");
        p.hang(0, 0, 0);
        p.hang(1, 1, 0);
        cutting("one long piece", p, 1, 9999 - 1600, 0, 0, -2, -2);
        BellTowerPlanner q = Check.tower(BELLS + "rope 560;rope 560;rope 1200;rope 1200;");
        q.hang(0, 0, 0);
        q.hang(1, 0, -5);
        cutting("piece 2 for both", q, 1, 50, 2, 2, -2, -2);
        q.takeDown(1);
        cutting("piece 0 for one", q, 1, 10, 0, -2, -2, -2);
        q.hang(2, 1, 0);
        q.hang(1, 0, -5);
        cutting("550, 600 and 1050", q, 2, 200, 2, 2, 3, -2);
    }

    private static void eightBells() {
        StringBuilder text = new StringBuilder("beam 300 50000;beam 300 50000;");
        text.append("bell 10 2 4;".repeat(8)).append("rope 350;".repeat(7)).append("rope 430;");
        BellTowerPlanner p = Check.tower(text.toString());
        for (int bell = 0; bell < 4; bell++) {
            p.hang(bell, 0, 4 * bell - 8);
            p.hang(bell + 4, 1, 0);
        }
        Check.due("ropes that fit no piece", -2, p::fewestPieces);
        BellTowerPlanner q = Check.tower("beam 300 50000;beam 300 50000;beam 300 0;beam 300 0;"
                + "bell 10 2 4;".repeat(8) + "rope 430;".repeat(8));
        for (int bell = 0; bell < 7; bell++) {
            q.hang(bell, bell % 2, bell / 2 * 4 - 8);
        }
        q.hang(7, 2, 0);
        cutting("each on its own", q, 8, 8 * 430 - 8 * 350 - 80 * 2 - 40 * 2 - 40,
                0, 1, 2, 3, 4, 5, 6, 7);
    }

    private static void longRopes() {
        BellTowerPlanner p = Check.tower("beam 5000 50000;bell 10 2 4;bell 10 2 4;bell 10 2 4;"
                + "rope 9999;");
        p.hang(0, 0, 0);
        p.hang(1, 0, 15);
        p.hang(2, 0, -15);
        Check.due("longer than a piece of the text may be", 10250, p::extraPiece);
        p.takeDown(0);
        Check.due("one of two", 5200, p::extraPiece);
    }
}

/** The sentences of rule 7 and of promises 44 to 48, each with its edges. */
final class EdgesOfRopes {
    private static final String BELLS = "beam 500 50000;beam 1000 50000;"
            + "bell 10 2 4;bell 10 2 4;bell 10 2 4;bell 10 2 4;";

    private EdgesOfRopes() {
    }

    static void check() {
        lengths();
        cuttings();
        bestCutting();
        ropeLength();
        fewestPieces();
        pieceOf();
        waste();
        extraPiece();
        extraPieceOfMany();
    }

    /** Bell k hangs on beam 0 with a rope of the length lengths[k] (550 to 700). */
    private static Trial ropes(String pieces, int... lengths) {
        Trial t = Trial.of("beam 500 50000;beam 500 50000;beam 500 50000;beam 500 50000;"
                + "bell 10 2 4;".repeat(4) + pieces);
        for (int bell = 0; bell < lengths.length; bell++) {
            t.with("hang", bell, bell, (lengths[bell] - 550) / 10);
        }
        return t;
    }

    private static void cutting(Trial t, int... pieceOf) {
        for (int bell = 0; bell < pieceOf.length; bell++) {
            t.due(pieceOf[bell], "pieceOf", bell);
        }
        t.due(0, "extraPiece");
    }

    private static void noCutting(Trial t) {
        t.due(-2, "fewestPieces");
        t.due(-2, "waste");
        t.due(-3, "pieceOf", 0);
    }

    private static void lengths() {
        Sentence.rule(7, "The rope of a bell that hangs has the length height of its beam + 10 * "
                + "absolute value of its position + 50.");
        Trial t = Trial.of("beam 300 50000;beam 5000 50000;bell 10 2 4;");
        int[] positions = {-15, -1, 0, 1, 15};
        for (int beam = 0; beam < 2; beam++) {
            for (int position : positions) {
                t.with("hang", 0, beam, position);
                int height = beam == 0 ? 300 : 5000;
                t.due(height + 50 + 10 * Math.abs(position), "ropeLength", 0);
                t.with("takeDown", 0);
            }
        }
    }

    private static void cuttings() {
        Sentence.rule(7, "A cutting assigns a rope piece to each bell that hangs, such that for each "
                + "piece the sum of the lengths of the ropes cut from it is at most the length of "
                + "the piece.");
        cutting(ropes("rope 550;", 550), 0, -2, -2, -2);
        noCutting(ropes("rope 549;", 550));
        cutting(ropes("rope 549;rope 550;", 550), 1);
        cutting(ropes("rope 1150;", 550, 600), 0, 0);
        noCutting(ropes("rope 1149;", 550, 600));
        cutting(ropes("rope 1149;rope 549;rope 550;", 550, 600), 2, 0);
        cutting(ropes("rope 2450;", 550, 600, 600, 700), 0, 0, 0, 0);
        noCutting(ropes("rope 2449;", 550, 600, 600, 700));
        noCutting(ropes("", 550));
        Trial t = ropes("rope 1150;", 550, 600, 700);
        noCutting(t);
        t.with("takeDown", 2);
        cutting(t, 0, 0, -2);
    }

    private static void bestCutting() {
        Sentence.rule(7, "The best cutting is the one that uses the fewest pieces");
        Trial t = ropes("rope 550;rope 550;rope 1100;", 550, 550);
        cutting(t, 2, 2);
        t.due(1, "fewestPieces");
        Trial three = ropes("rope 600;rope 600;rope 600;rope 1150;", 550, 600, 600);
        cutting(three, 3, 0, 3);
        three.due(2, "fewestPieces");

        Sentence.rule(7, "of several, the one whose sequence of piece numbers, by ascending number "
                + "of the bells that hang, is lexicographically least");
        cutting(ropes("rope 700;rope 700;rope 700;rope 700;", 550, 550, 550, 550), 0, 1, 2, 3);
        cutting(ropes("rope 550;rope 610;rope 600;", 600, 550, 600), 1, 0, 2);
        cutting(ropes("rope 1200;rope 1200;", 550, 600, 550, 600), 0, 0, 1, 1);
        cutting(ropes("rope 1200;rope 1300;", 650, 600, 600, 550), 0, 1, 1, 0);
        cutting(ropes("rope 9999;rope 550;", 550), 0);
        Trial p = ropes("rope 700;rope 700;rope 700;", 550, 550, 550, 550);
        p.with("takeDown", 1);
        cutting(p, 0, -2, 1, 2);
        p.with("takeDown", 0);
        cutting(p, -2, -2, 0, 1);
    }

    private static void ropeLength() {
        Sentence.promise(44, "Returns the length of the rope of a bell.", "Returns the length");
        Trial t = Trial.of(BELLS);
        t.with("hang", 0, 0, 0).with("hang", 1, 1, 15);
        t.due(550, "ropeLength", 0);
        t.due(1200, "ropeLength", 1);
        t.with("shift", 0, -15);
        t.due(700, "ropeLength", 0);
        t.with("startSwing", 0, 0, 15);
        t.due(700, "ropeLength", 0);

        Sentence.promise(44, "-2 if the bell does not hang");
        t.with("takeDown", 0);
        t.due(-2, "ropeLength", 0);
        t.due(-2, "ropeLength", 2);
    }

    private static void fewestPieces() {
        Sentence.promise(45, "Returns the number of pieces of the best cutting.",
                "Returns the number, 0 if no bell hangs");
        Trial.of(BELLS).due(0, "fewestPieces");
        Trial.of(BELLS + "rope 9999;").due(0, "fewestPieces");
        Trial down = ropes("rope 9999;rope 9999;", 550, 600);
        down.due(1, "fewestPieces");
        down.with("takeDown", 0).with("takeDown", 1);
        down.due(0, "fewestPieces");
        down.due(0, "waste");
        down.with("undo");
        down.due(1, "fewestPieces");
        ropes("rope 9999;rope 9999;", 550).due(1, "fewestPieces");
        ropes("rope 2450;", 550, 600, 600, 700).due(1, "fewestPieces");
        ropes("rope 700;rope 600;rope 600;rope 550;", 550, 600, 600, 700).due(4, "fewestPieces");
        ropes("rope 1300;rope 1150;", 550, 600, 600, 700).due(2, "fewestPieces");
        Trial eight = Trial.of("beam 300 50000;" + "bell 10 2 4;".repeat(8) + "rope 490;".repeat(8));
        for (int bell = 0; bell < 8; bell++) {
            eight.with("hang", bell, 0, 4 * bell - 14);
            eight.due(bell + 1, "fewestPieces");
        }
        eight.due(7, "pieceOf", 7);
        eight.due(8 * 490 - (8 * 350 + 640), "waste");

        Sentence.promise(45, "-2 if there is no cutting");
        ropes("", 550).due(-2, "fewestPieces");
        ropes("rope 549;", 550).due(-2, "fewestPieces");
        ropes("rope 700;rope 600;rope 599;rope 550;", 550, 600, 600, 700).due(-2, "fewestPieces");
    }

    private static void pieceOf() {
        Sentence.promise(46, "Returns the piece from which the rope of a bell is cut in the best "
                + "cutting.", "Returns number of the piece");
        Trial t = ropes("rope 549;".repeat(7) + "rope 9999;", 550, 600, 600, 700);
        for (int bell = 0; bell < 4; bell++) {
            t.due(7, "pieceOf", bell);
        }
        Trial p = ropes("rope 700;rope 600;rope 600;rope 550;", 550, 600, 600, 700);
        p.due(3, "pieceOf", 0);
        p.due(1, "pieceOf", 1);
        p.due(2, "pieceOf", 2);
        p.due(0, "pieceOf", 3);

        Sentence.promise(46, "-2 if the bell does not hang");
        Trial down = ropes("rope 600;", 550);
        down.due(-2, "pieceOf", 1);
        Trial none = ropes("rope 549;", 550);
        none.due(-2, "pieceOf", 1);
        none.with("takeDown", 0);
        none.due(-2, "pieceOf", 0);

        Sentence.promise(46, "-3 if there is no cutting");
        ropes("", 550).due(-3, "pieceOf", 0);
        Trial one = ropes("rope 9999;", 550);
        one.due(0, "pieceOf", 0);
        Trial two = ropes("rope 550;", 550, 550);
        two.due(-3, "pieceOf", 0);
        two.due(-3, "pieceOf", 1);
        two.due(-2, "pieceOf", 2);
    }

    private static void waste() {
        Sentence.promise(47, "Returns what is left of the pieces that the best cutting uses: the sum "
                + "of their lengths minus the sum of the lengths of all ropes.",
                "Returns the length");
        Trial.of(BELLS).due(0, "waste");
        Trial.of(BELLS + "rope 9999;").due(0, "waste");
        ropes("rope 9999;rope 100;", 550).due(9449, "waste");
        ropes("rope 550;rope 9999;", 550).due(0, "waste");
        ropes("rope 600;rope 600;rope 600;rope 1150;", 550, 600, 600).due(0, "waste");
        ropes("rope 600;rope 610;rope 600;rope 1170;", 550, 600, 610).due(10, "waste");
        ropes("rope 550;rope 550;rope 1200;", 550, 550).due(100, "waste");

        Sentence.promise(47, "-2 if there is no cutting");
        ropes("", 550).due(-2, "waste");
        ropes("rope 549;rope 549;", 550).due(-2, "waste");
    }

    private static void extraPiece() {
        Sentence.promise(48, "Finds the least length of one additional rope piece with which there "
                + "would be a cutting.", "Returns the length");
        ropes("", 550).due(550, "extraPiece");
        ropes("", 550, 600).due(1150, "extraPiece");
        ropes("rope 549;", 550).due(550, "extraPiece");
        ropes("rope 550;", 550, 600).due(600, "extraPiece");
        ropes("rope 600;", 550, 600).due(550, "extraPiece");
        ropes("rope 1149;", 550, 600).due(550, "extraPiece");
        ropes("rope 599;", 550, 600, 700).due(1300, "extraPiece");
        ropes("rope 600;rope 600;", 550, 600, 600, 700).due(1250, "extraPiece");
        ropes("rope 1200;rope 700;", 550, 600, 600, 700).due(550, "extraPiece");
        Trial eighth = Trial.of("beam 300 50000;bell 10 2 4;" + "rope 349;".repeat(8));
        eighth.with("hang", 0, 0, 0);
        eighth.due(350, "extraPiece");

        Sentence.promise(48, "0 if there is a cutting without it");
        Trial.of(BELLS).due(0, "extraPiece");
        ropes("rope 550;", 550).due(0, "extraPiece");
        ropes("rope 1150;", 550, 600).due(0, "extraPiece");
        Trial t = ropes("rope 550;", 550, 600);
        t.with("takeDown", 1);
        t.due(0, "extraPiece");
    }

    private static void extraPieceOfMany() {
        Sentence.promise(48, "least length of one additional rope piece");
        Trial t = Trial.of("beam 5000 50000;" + "bell 10 2 4;".repeat(8));
        int sum = 0;
        for (int bell = 0; bell < 8; bell++) {
            t.with("hang", bell, 0, 4 * bell - 14);
            sum += 5050 + 10 * Math.abs(4 * bell - 14);
            t.due(sum, "extraPiece");
        }
        noCutting(t);
    }
}

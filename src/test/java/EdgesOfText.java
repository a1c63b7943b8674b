/** The sentences of rules 1 and 2 and of promises 1 to 5, each with its edges. */
final class EdgesOfText {
    private static final String BEAM = "beam 300 0;";
    private static final String BELL = "bell 10 2 4;";
    private static final String START = BEAM + BELL;
    private static final String QUIET = "quiet 0 1;";
    private static final String ROPE = "rope 100;";
    private static final String FULL =
            BEAM.repeat(4) + BELL.repeat(8) + QUIET.repeat(6) + ROPE.repeat(8);

    private EdgesOfText() {
    }

    static void check() {
        numbers();
        sets();
        statements();
        beams();
        bells();
        quietHours();
        ropes();
        order();
        tokens();
        blanks();
        leastError();
        wrongTokens();
        wrongNumbers();
        tooMany();
        newObject();
        append();
        fullBuffer();
        truncate();
        load();
        loadReplaces();
        loadEmptiesBuffer();
        errorPosition();
    }

    private static void right(String text, int bells) {
        Trial t = new Trial();
        t.write(text);
        Check.same("load() of " + text, bells, t.answer("load"));
        Check.same("errorPosition() of " + text, -1, t.answer("errorPosition"));
        Check.same("torque(0) of " + text, 0, t.answer("torque", 0));
    }

    private static void wrong(String text, int code, int position) {
        Trial t = new Trial();
        t.write(text);
        Check.same("load() of " + text, -10 - code, t.answer("load"));
        Check.same("errorPosition() of " + text, position, t.answer("errorPosition"));
        Check.same("torque(0) of " + text, Trial.STATE, t.answer("torque", 0));
    }

    private static void numbers() {
        Sentence.rule(1, "All numbers are ints.");
        Trial t = Trial.of(START);
        t.due(Trial.ARGUMENT, "torque", Integer.MIN_VALUE);
        t.due(Trial.ARGUMENT, "torque", Integer.MAX_VALUE);
        t.due(-2, "bellAt", 0, Integer.MAX_VALUE);

        Sentence.rule(1, "Every division truncates toward zero.");
        Trial p = Trial.of("beam 300 0;bell 10 2 5;bell 10 2 9;");
        p.with("hang", 0, 0, 0).with("startSwing", 0, 0, 1);
        p.due(0, "offset", 0, 2);
        p.due(0, "offset", 0, 3);
        p.due(0, "offset", 0, 4);
        p.with("startSwing", 0, 0, 3);
        p.due(1, "offset", 0, 2);
        p.due(-1, "offset", 0, 3);
        p.due(-2, "offset", 0, 4);
        p.due(2, "strikes", 0, 0, 4);
        p.due(1, "strikes", 0, 1, 1);
        p.due(1, "strikes", 0, 3, 3);

        Sentence.rule(1, "Weights are in kilograms, positions, radii and amplitudes in decimetres, "
                + "rope lengths and heights in centimetres.");
        Trial ropes = Trial.of("beam 300 50000;bell 10 2 4;");
        ropes.with("hang", 0, 0, 1);
        ropes.due(10, "torque", 0);
        ropes.due(300 + 10 + 50, "ropeLength", 0);

        Sentence.rule(1, "minutes of a day (0 to 1439) for chimes");
        t.due(0, "isQuiet", 0);
        t.due(0, "isQuiet", 1439);
        t.due(Trial.ARGUMENT, "isQuiet", -1);
        t.due(Trial.ARGUMENT, "isQuiet", 1440);
        t.due(1440, "longestLoud");
    }

    private static void sets() {
        Sentence.rule(1, "A set of bells is a bit mask; bit k stands for bell k.");
        Trial t = Trial.of("beam 300 50000;" + BELL.repeat(8));
        for (int bell = 0; bell < 8; bell++) {
            t.with("hang", bell, 0, 4 * bell - 15).with("setChime", bell, bell, 1440);
            t.due(1 << bell, "soundsAt", bell);
        }
        t.due(0, "soundsAt", 8);
        for (int bell = 0; bell < 8; bell++) {
            t.with("setChime", bell, 700, 1440);
        }
        t.due(255, "soundsAt", 700);
    }

    private static void statements() {
        Sentence.rule(2, "A tower text is a sequence of statements.");
        right(START, 1);
        wrong("", 1, 0);

        Sentence.rule(2, "Each statement is a keyword followed by numbers and a semicolon.");
        wrong("beam 300 0", 1, 10);
        wrong("beam 300 0 bell 10 2 4;", 1, 11);
        wrong("beam 300;", 1, 8);
        wrong("beam;", 1, 4);
        wrong("beam 300 0 0;", 1, 11);
        wrong("300 0;", 1, 0);
        wrong(BEAM + "bell 10 2;", 1, 20);
        wrong(BEAM + "bell 10 2 4 4;", 1, 23);
        wrong(START + "quiet 0;", 1, 30);
        wrong(START + "quiet 0 1 2;", 1, 33);
        wrong(START + "rope;", 1, 27);
        wrong(START + "rope 100 100;", 1, 32);
    }

    private static void beams() {
        Sentence.rule(2, "1 to 4 statements: height H (300 to 5000) and torque limit L (0 to 50000)");
        wrong("", 1, 0);
        wrong(BELL, 1, 0);
        right(START, 1);
        right(BEAM.repeat(4) + BELL, 1);
        wrong(BEAM.repeat(5) + BELL, 4, 44);
        wrong("beam 299 0;bell 10 2 4;", 2, 5);
        wrong("beam 5001 0;bell 10 2 4;", 2, 5);
        wrong("beam 300 50001;bell 10 2 4;", 2, 9);
        wrong("beam 300 -1;bell 10 2 4;", 1, 9);
        Trial t = Trial.of("beam 300 0;beam 5000 50000;bell 10 2 4;bell 3000 2 4;bell 1000 2 4;"
                + "bell 1001 2 4;");
        t.due(1, "hang", 0, 0, 0);
        t.due(350, "ropeLength", 0);
        t.due(-4, "shift", 0, 1);
        t.due(-4, "shift", 0, -1);
        t.due(1, "hang", 1, 1, 15);
        t.due(5200, "ropeLength", 1);
        t.due(-4, "hang", 3, 1, 5);
        t.due(2, "hang", 2, 1, 5);
        t.due(50000, "torque", 1);
    }

    private static void bells() {
        Sentence.rule(2, "1 to 8 statements: weight W (10 to 3000), radius R (2 to 10) and swing "
                + "period P (4 to 40 ticks)");
        wrong(BEAM, 1, 11);
        wrong(BEAM + QUIET, 1, 11);
        right(BEAM + BELL.repeat(8), 8);
        wrong(BEAM + BELL.repeat(9), 4, 11 + 96);
        wrong(BEAM + "bell 9 2 4;", 2, 16);
        wrong(BEAM + "bell 3001 2 4;", 2, 16);
        wrong(BEAM + "bell 10 1 4;", 2, 19);
        wrong(BEAM + "bell 10 11 4;", 2, 19);
        wrong(BEAM + "bell 10 2 3;", 2, 21);
        wrong(BEAM + "bell 10 2 41;", 2, 21);
        Trial t = Trial.of("beam 300 50000;beam 300 50000;bell 10 2 4;bell 3000 10 40;"
                + "bell 10 2 4;bell 3000 10 40;");
        t.due(1, "hang", 0, 0, 1);
        t.due(10, "torque", 0);
        t.due(-3, "hang", 2, 0, 4);
        t.due(2, "hang", 2, 0, 5);
        t.due(1, "hang", 1, 1, 15);
        t.due(45000, "torque", 1);
        t.due(-3, "hang", 3, 1, -4);
        t.due(2, "hang", 3, 1, -5);
        t.with("startSwing", 0, 0, 7).with("startSwing", 1, 0, 10);
        t.due(7, "offset", 0, 1);
        t.due(0, "offset", 0, 2);
        t.due(7, "offset", 0, 5);
        t.due(9, "offset", 1, 9);
        t.due(10, "offset", 1, 10);
        t.due(9, "offset", 1, 11);
        t.due(-10, "offset", 1, 30);
        t.due(0, "offset", 1, 40);
        t.due(10, "offset", 1, 50);
    }

    private static void quietHours() {
        Sentence.rule(2, "0 to 6 statements: the minutes A, A + 1, .. B - 1 are quiet "
                + "(A 0 to 1439, B 1 to 1440, B greater than A)");
        right(START + QUIET.repeat(6), 1);
        wrong(START + QUIET.repeat(7), 4, 23 + 60);
        wrong(START + "quiet 1440 1440;", 2, 29);
        wrong(START + "quiet 0 0;", 2, 31);
        wrong(START + "quiet 0 1441;", 2, 31);
        wrong(START + "quiet 5 5;", 3, 31);
        wrong(START + "quiet 5 4;", 3, 31);
        Trial none = Trial.of(START);
        none.due(0, "quietMinutes");
        none.due(0, "isQuiet", 0);
        Trial t = Trial.of(START + "quiet 0 1;quiet 1439 1440;quiet 10 20;");
        t.due(12, "quietMinutes");
        int[] quiet = {0, 10, 11, 18, 19, 1439};
        for (int minute : quiet) {
            t.due(1, "isQuiet", minute);
        }
        int[] loud = {1, 9, 20, 1438};
        for (int minute : loud) {
            t.due(0, "isQuiet", minute);
        }
        Trial.of(START + "quiet 0 1440;").due(1440, "quietMinutes");

        Sentence.rule(2, "they may overlap");
        Trial p = Trial.of(START + "quiet 10 30;quiet 20 40;quiet 15 25;quiet 10 30;quiet 40 41;");
        p.due(31, "quietMinutes");
        p.due(0, "isQuiet", 9);
        p.due(1, "isQuiet", 10);
        p.due(1, "isQuiet", 40);
        p.due(0, "isQuiet", 41);
    }

    private static void ropes() {
        Sentence.rule(2, "0 to 8 statements: a rope piece of length N (100 to 9999)");
        right(START + ROPE.repeat(8), 1);
        wrong(START + ROPE.repeat(9), 4, 23 + 72);
        wrong(START + "rope 99;", 2, 28);
        wrong(START + "rope 10000;", 2, 28);
        Trial none = Trial.of(START);
        none.with("hang", 0, 0, 0);
        none.due(-2, "fewestPieces");
        Trial t = Trial.of(START + "rope 100;rope 9999;");
        t.with("hang", 0, 0, 0);
        t.due(1, "pieceOf", 0);
        t.due(9999 - 350, "waste");

        Sentence.rule(2, "Beams, bells and rope pieces are numbered from 0 in the order of the text.");
        Trial p = Trial.of("beam 300 0;beam 400 100;beam 500 200;beam 600 300;"
                + "bell 10 2 4;bell 20 2 4;rope 350;rope 450;rope 550;rope 9999;");
        for (int beam = 0; beam < 4; beam++) {
            p.with("hang", 1, beam, 0);
            p.due(350 + 100 * beam, "ropeLength", 1);
            p.due(beam, "pieceOf", 1);
            p.with("takeDown", 1);
        }
        p.with("hang", 1, 3, 15);
        p.due(300, "torque", 3);
        p.due(Trial.ARGUMENT, "torque", 4);
        p.due(Trial.ARGUMENT, "beamOf", 2);
    }

    private static void order() {
        Sentence.rule(2, "The statements are, in this order:");
        right(START + QUIET + ROPE, 1);
        right(START + ROPE, 1);
        wrong(BELL + BEAM, 1, 0);
        wrong(QUIET + START, 1, 0);
        wrong(ROPE + START, 1, 0);
        wrong(BEAM + QUIET + BELL, 1, 11);
        wrong(BEAM + ROPE + BELL, 1, 11);
        wrong(START + BEAM, 1, 23);
        wrong(START + QUIET + BEAM, 1, 33);
        wrong(START + QUIET + BELL, 1, 33);
        wrong(START + ROPE + BEAM, 1, 32);
        wrong(START + ROPE + BELL, 1, 32);
        wrong(START + ROPE + QUIET, 1, 32);
    }

    private static void tokens() {
        Sentence.rule(2, "a keyword (lower-case letters, as many as follow one another)");
        wrong("Beam 300 0;", 1, 0);
        wrong("beaM 300 0;", 1, 0);
        wrong("beams 300 0;", 1, 0);
        wrong("bea 300 0;", 1, 0);
        wrong("be am 300 0;", 1, 0);
        wrong("beambell 300 0;", 1, 0);
        wrong(START + "quie 0 1;", 1, 23);
        wrong(START + "quietly 0 1;", 1, 23);
        wrong(START + "ropes 100;", 1, 23);
        wrong(START + "z 100;", 1, 23);
        wrong("beama 300 0;", 1, 0);
        wrong("beamz 300 0;", 1, 0);
        wrong("abeam 300 0;", 1, 0);
        wrong("team 300 0;", 1, 0);
        wrong("bean 300 0;", 1, 0);
        wrong(BEAM + "cell 10 2 4;", 1, 11);
        wrong(BEAM + "belt 10 2 4;", 1, 11);
        wrong(START + "suiet 0 1;", 1, 23);
        wrong(START + "hope 100;", 1, 23);
        wrong("beam 300 0a;", 1, 10);

        Sentence.rule(2, "a number (digits, as many as follow one another, at most five)");
        right("beam 00300 00000;bell 00010 00002 00004;quiet 00000 00001;rope 00100;", 1);
        wrong("beam 000300 0;", 1, 5);
        wrong("beam 300 000000;", 1, 9);
        wrong("beam 300 0 123456;", 1, 11);
        wrong("beam 30 0 0;", 2, 5);
        wrong("beam 3000;", 1, 9);

        Sentence.rule(2, "or a semicolon");
        right("beam 300 0 ; bell 10 2 4 ;", 1);
        wrong("beam 300 0:", 1, 10);
        wrong("beam 300 0,", 1, 10);
        wrong(BEAM + ";" + BELL, 1, 11);
        wrong(";" + START, 1, 0);
        wrong(START + ";", 1, 23);
    }

    private static void blanks() {
        Sentence.rule(2, "Blanks (byte 32) and line feeds (byte 10) may stand before, between and "
                + "behind tokens.");
        right(" " + START, 1);
        right("\n" + START, 1);
        right("\n \n" + BEAM + " \n " + BELL + "\n \n", 1);
        right("beam300 0;bell10 2 4;quiet0 1;rope100;", 1);
        right("beam  300\n\n0 \n;bell\n10\n2\n4\n;", 1);
        wrong(" \n \n", 1, 4);
        wrong("beam 3 00 0;", 2, 5);
        int[] others = {0, 9, 11, 13, 31, 33, 95, 127, 128, 138, 160, 255};
        for (int other : others) {
            wrong((char) other + START, 1, 0);
            wrong("beam" + (char) other + "300 0;", 1, 4);
            wrong("beam 300" + (char) other + "0;", 1, 8);
            wrong("beam 300 0" + (char) other + ";", 1, 10);
            wrong(START + (char) other, 1, 23);
        }
    }

    private static void leastError() {
        Sentence.rule(2, "Errors. The error with the least position counts");
        wrong("beam 299 0x", 2, 5);
        wrong("beam 299 50001;", 2, 5);
        wrong("beam 300 50001", 2, 9);
        wrong("beam x 50001;", 1, 5);
        wrong(START + "quiet 9 9x", 3, 31);
        wrong(START + "quiet 9 9;rope 99;", 3, 31);
        wrong(START + "quiet 1440 1441;", 2, 29);
        wrong(START + "quiet 1440 5;", 2, 29);
        wrong(BEAM.repeat(5), 4, 44);
        wrong(BEAM.repeat(4) + "beam 299 x", 4, 44);
        wrong(START + ROPE.repeat(8) + "rope 99", 4, 23 + 72);
        wrong(BEAM + "bell 9 11 41", 2, 16);

        Sentence.rule(2, "of several errors at one position, the one with the least code");
        wrong(START + "quiet 0 0;", 2, 31);
        wrong(START + "quiet 7 0;", 2, 31);
        wrong(BEAM.repeat(4) + BELL + BEAM, 1, 56);
        wrong(START + QUIET.repeat(6) + ROPE + QUIET, 1, 23 + 60 + 9);
        wrong(BEAM + BELL.repeat(8) + ROPE + BELL, 1, 11 + 96 + 9);
        wrong("beam 999999 0;", 1, 5);
        wrong(START + "quiet 9 000009;", 1, 31);

        Sentence.rule(2, "Positions are byte positions from 0.");
        wrong("x", 1, 0);
        wrong("\n\nx", 1, 2);
        wrong("beam 300 0;\n\nbell 9 2 4;", 2, 18);
        wrong(FULL + " ".repeat(127) + "x", 1, 399);
    }

    private static void wrongTokens() {
        Sentence.rule(2, "1: a token that cannot stand there, at its first byte");
        wrong("beam bell", 1, 5);
        wrong("beam 300 beam", 1, 9);
        wrong("beam 300 0 77", 1, 11);
        wrong("beam ;", 1, 5);
        wrong(START + "17", 1, 23);
        wrong(START + "  rope  quiet", 1, 31);
        wrong(START + "  nothing", 1, 25);

        Sentence.rule(2, "also a byte that begins no token, and a number of six or more digits");
        wrong("beam 300 0;Bell 10 2 4;", 1, 11);
        wrong("beam -300 0;", 1, 5);
        wrong("beam 300 -1;", 1, 9);
        wrong(BEAM + "bell 10 -2 4;", 1, 19);
        wrong(BEAM + "bell 10 2 -4;", 1, 21);
        wrong(START + "quiet 5 -9;", 1, 31);
        wrong("beam 300 0.;", 1, 10);
        wrong("`", 1, 0);
        wrong("{", 1, 0);
        wrong("beam`300 0;", 1, 4);
        wrong("beam{300 0;", 1, 4);
        wrong("beam /", 1, 5);
        wrong("beam :", 1, 5);
        wrong("beam 300/0;", 1, 8);
        wrong("beam 300:0;", 1, 8);
        wrong("beam 100000 0;", 1, 5);
        wrong("beam 99999 0;", 2, 5);
        wrong("beam 300 123456789012345678901234567890;", 1, 9);
        wrong("123456", 1, 0);

        Sentence.rule(2, "At the end of the text the position is the length of the text.");
        wrong("", 1, 0);
        wrong(" ", 1, 1);
        wrong("beam", 1, 4);
        wrong("beam 300", 1, 8);
        wrong("beam 300 0", 1, 10);
        wrong("beam 300 0 \n", 1, 12);
        wrong(BEAM, 1, 11);
        wrong(BEAM + " ", 1, 12);
        wrong(BEAM + " ".repeat(389), 1, 400);
        wrong(START + "rope 100", 1, 31);
        wrong(START + "quiet 5 ", 1, 31);
    }

    private static void wrongNumbers() {
        Sentence.rule(2, "2: a number out of its range, at its first byte.");
        wrong("beam   299 0;", 2, 7);
        wrong("beam 00299 0;", 2, 5);
        wrong("beam 300 99999;", 2, 9);
        wrong(START + "rope\n\n00099;", 2, 29);

        Sentence.rule(2, "3: a number B that is not greater than A, at its first byte.");
        wrong(START + "quiet 9 8;", 3, 31);
        wrong(START + "quiet 9  00009;", 3, 32);
        wrong(START + "quiet 1439 1439;", 3, 34);
        wrong(START + "quiet 1439 1;", 3, 34);
        right(START + "quiet 1439 1440;", 1);
        right(START + "quiet 8 9;", 1);
        right("beam 300 300;bell 10 10 10;", 1);
    }

    private static void tooMany() {
        Sentence.rule(2, "4: a statement of which there are as many as possible already, at its "
                + "keyword.");
        right(FULL, 8);
        wrong(FULL + "\n" + ROPE, 4, 273);
        wrong(BEAM.repeat(4) + "\n" + "beam", 4, 45);
        wrong(BEAM + BELL.repeat(8) + "  bell;", 4, 11 + 96 + 2);
        wrong(START + QUIET.repeat(6) + " quiet 9 9;", 4, 23 + 60 + 1);
    }

    private static void newObject() {
        Sentence.promise(1, "Creates a planner without a tower");
        new Trial().due(Trial.STATE, "quietMinutes");
        new Trial().due(Trial.STATE, "undo");
        new Trial().due(Trial.STATE, "torque", 0);

        Sentence.promise(1, "with an empty text buffer");
        new Trial().due(20, "append", 0, 0, 0, 0, 0);
        Trial t = new Trial();
        t.due(Trial.ARGUMENT, "truncate", 1);
        t.due(0, "truncate", 0);
        t.due(-11, "load");
        t.due(0, "errorPosition");
    }

    /** Twenty blanks but for one byte, which begins no token: so its position tells where it is. */
    private static void oneByte(int at) {
        int[] words = new int[5];
        for (int i = 0; i < 20; i++) {
            words[i / 4] = words[i / 4] << 8 | (i == at ? 255 : 32);
        }
        Trial t = new Trial();
        t.due(20, "append", words);
        t.due(-11, "load");
        t.due(at, "errorPosition");
    }

    private static void append() {
        Sentence.promise(2, "Appends twenty bytes to the text buffer");
        Trial t = new Trial();
        t.due(20, "append", 0x6265616d, 0x20333030, 0x20303b62, 0x656c6c20, 0x31302032);
        t.due(40, "append", 0x20343b20, 0x20202020, 0x20202020, 0x20202020, 0x20202020);
        t.due(1, "load");
        t.due(20, "append", 0, 0, 0, 0, 0);

        String[] arguments = {"- `a`: bytes 0 to 3", "- `b`: bytes 4 to 7",
            "- `c`: bytes 8 to 11", "- `d`: bytes 12 to 15", "- `e`: bytes 16 to 19"};
        for (int i = 0; i < arguments.length; i++) {
            Sentence.promise(2, arguments[i]);
            oneByte(4 * i);
            oneByte(4 * i + 3);
        }
        Sentence.promise(2, "the four bytes of each argument in order, the most significant byte "
                + "first");
        for (int at = 0; at < 20; at++) {
            oneByte(at);
        }
        Sentence.promise(2, "This method needs no tower.");
        new Trial().due(20, "append", 1, 2, 3, 4, 5);

        Sentence.promise(2, "Returns the new length of the buffer.");
        Trial p = new Trial();
        for (int length = 20; length <= 400; length += 20) {
            p.due(length, "append", -1, 0, 1, 2, 3);
        }
        p.with("truncate", 7).due(27, "append", 0, 0, 0, 0, 0);
    }

    private static Trial buffer(int length) {
        Trial t = new Trial();
        for (int i = 0; i < (length + 19) / 20; i++) {
            t.with("append", 0x20202020, 0x20202020, 0x20202020, 0x20202020, 0x20202020);
        }
        return t.with("truncate", length);
    }

    private static void fullBuffer() {
        Sentence.promise(2, "Throws `IllegalStateException` if the length would be above 400");
        buffer(379).due(399, "append", 0, 0, 0, 0, 0);
        buffer(380).due(400, "append", 0, 0, 0, 0, 0);
        buffer(381).due(Trial.STATE, "append", 0, 0, 0, 0, 0);
        buffer(399).due(Trial.STATE, "append", 0, 0, 0, 0, 0);
        buffer(400).due(Trial.STATE, "append", 0, 0, 0, 0, 0);
        Trial loaded = Trial.of(START);
        for (int i = 0; i < 20; i++) {
            loaded.with("append", 0, 0, 0, 0, 0);
        }
        loaded.due(Trial.STATE, "append", 0, 0, 0, 0, 0);
        loaded.due(0, "torque", 0);

        Sentence.promise(2, "(then nothing is appended)");
        for (int length = 381; length <= 400; length++) {
            Trial t = buffer(length);
            t.due(Trial.STATE, "append", -1, -1, -1, -1, -1);
            t.due(Trial.ARGUMENT, "truncate", length + 1);
            t.due(length, "truncate", length);
            t.due(-11, "load");
            t.due(length, "errorPosition");
        }
        Trial t = new Trial();
        t.write(FULL + " ".repeat(400 - FULL.length()));
        t.due(Trial.STATE, "append", -1, -1, -1, -1, -1);
        t.due(8, "load");
    }

    private static void truncate() {
        Sentence.promise(3, "Truncates the text buffer to its first bytes.");
        Trial t = new Trial();
        t.write(START + "x");
        t.due(23, "truncate", 23);
        t.due(1, "load");
        t.write(START + ROPE);
        t.due(11, "truncate", 11);
        t.due(31, "append", 0x62656c6c, 0x31302032, 0x20343b20, 0x20202020, 0x20202020);
        t.due(1, "load");

        Sentence.promise(3, "This method needs no tower.");
        buffer(20).due(5, "truncate", 5);
        new Trial().due(0, "truncate", 0);

        Sentence.promise(3, "- `length`: the new length");
        Trial p = buffer(400);
        p.due(Trial.ARGUMENT, "truncate", 401);
        p.due(400, "truncate", 400);
        p.due(0, "truncate", 0);
        p.due(Trial.ARGUMENT, "truncate", 1);

        Sentence.promise(3, "Returns the new length.");
        Trial q = buffer(20);
        q.due(20, "truncate", 20);
        q.due(19, "truncate", 19);
        q.due(1, "truncate", 1);
        q.due(0, "truncate", 0);
        q.due(20, "append", 0, 0, 0, 0, 0);

        Sentence.promise(3, "Throws `IllegalArgumentException` if length is negative or greater "
                + "than the present length");
        Trial r = buffer(17);
        int[] lengths = {-1, 18, 20, 400, 401, Integer.MIN_VALUE, Integer.MAX_VALUE};
        for (int length : lengths) {
            r.due(Trial.ARGUMENT, "truncate", length);
        }
        r.due(37, "append", 0, 0, 0, 0, 0);
        r.due(Trial.ARGUMENT, "truncate", 38);
        r.due(37, "truncate", 37);
        new Trial().due(Trial.ARGUMENT, "truncate", 1);
        new Trial().due(Trial.ARGUMENT, "truncate", -1);
    }

    private static void load() {
        Sentence.promise(4, "Parses the text buffer as a tower text.");
        right("beam 300 0;\nbell 10 2 4;\nquiet 0 60;\nrope 500;\n", 1);
        wrong("beam 300 0;\nbell 10 2 4;\nquiet 0 60;\nrope 500\n", 1, 46);

        Sentence.promise(4, "This method needs no tower.");
        new Trial().due(-11, "load");

        Sentence.promise(4, "Returns the number of bells");
        for (int bells = 1; bells <= 8; bells++) {
            right(BEAM + BELL.repeat(bells), bells);
        }
        Sentence.promise(4, "-10 minus the error code if the text is wrong");
        wrong("beam", 1, 4);
        wrong("beam 1", 2, 5);
        wrong(START + "quiet 1 1", 3, 31);
        wrong(BEAM.repeat(4) + "beam", 4, 44);
    }

    private static Trial busyTower() {
        Trial t = Trial.of("beam 300 500;beam 300 0;bell 100 2 4;bell 100 2 4;quiet 5 9;rope 900;");
        t.with("hang", 0, 0, 5).with("hang", 1, 1, 0).with("setPlan", 0, 1, 0);
        return t.with("startSwing", 0, 0, 1).with("setChime", 0, 0, 1);
    }

    private static void loadReplaces() {
        Sentence.promise(4, "If it is correct, it replaces the current one");
        Trial t = busyTower();
        t.write(BEAM + "bell 20 3 8;bell 30 3 8;bell 40 3 8;quiet 0 2;");
        t.due(3, "load");
        t.due(Trial.ARGUMENT, "torque", 1);
        t.due(-2, "beamOf", 2);
        t.due(2, "quietMinutes");
        t.due(0, "isQuiet", 5);
        t.due(-4, "hang", 0, 0, 1);
        t.due(1, "hang", 0, 0, 0);
        t.due(-3, "hang", 1, 0, 5);
        t.due(-2, "fewestPieces");
        t.write(START);
        t.due(1, "load");
        t.due(0, "quietMinutes");
        t.due(0, "isQuiet", 0);
        t.due(1440, "longestLoud");
        Trial wrong = busyTower();
        String before = wrong.state();
        wrong.write(BEAM + "bell 9 2 4;");
        wrong.due(-12, "load");
        wrong.sameState("load() of a wrong text", before);
        wrong.due(4, "undo");

        Sentence.promise(4, "no bell hangs, there are no plans, swings and chimes, and no action can "
                + "be undone");
        Trial again = busyTower();
        again.write("beam 300 500;beam 300 0;bell 100 2 4;bell 100 2 4;quiet 5 9;rope 900;");
        again.due(2, "load");
        for (int bell = 0; bell < 2; bell++) {
            again.due(-2, "beamOf", bell);
            again.due(-2, "clearPlan", bell);
            again.due(-2, "stopSwing", bell);
            again.due(-2, "clearChime", bell);
        }
        again.due(0, "torque", 0);
        again.due(0, "stepsToPlan");
        again.due(-2, "undo");
        again.due(1, "hang", 0, 0, 0);
        again.due(0, "offset", 0, 1);
        again.due(-2, "safeAmplitude", 0);
        again.due(-2, "soundsPerDay", 0);
        again.due(0, "undo");
    }

    private static void loadEmptiesBuffer() {
        Sentence.promise(4, "The buffer is empty afterwards in every case.");
        String[] texts = {START, "", "x", FULL, "beam 1", BEAM.repeat(5), " ".repeat(400)};
        for (String text : texts) {
            Trial t = new Trial();
            t.write(text);
            t.answer("load");
            t.due(Trial.ARGUMENT, "truncate", 1);
            t.due(0, "truncate", 0);
            t.due(20, "append", 0, 0, 0, 0, 0);
        }
        Trial twice = Trial.of(START);
        twice.due(-11, "load");
        twice.due(0, "errorPosition");
    }

    private static void errorPosition() {
        Sentence.promise(5, "Returns the position of the error found by the latest call of load().");
        Trial t = new Trial();
        t.write("beam 300 0;bell 10 2 3;");
        t.due(-12, "load");
        t.due(21, "errorPosition");
        t.due(21, "errorPosition");
        t.write("x");
        t.due(21, "errorPosition");
        t.due(-11, "load");
        t.due(0, "errorPosition");
        t.write(BEAM);
        t.due(-11, "load");
        t.due(11, "errorPosition");

        Sentence.promise(5, "NONE if load() was never called or the latest call found no error");
        Check.same("NONE", -1, BellTowerPlanner.NONE);
        new Trial().due(-1, "errorPosition");
        Trial never = buffer(20);
        never.due(-1, "errorPosition");
        t.write(START);
        t.due(1, "load");
        t.due(-1, "errorPosition");
        t.due(-11, "load");
        t.due(0, "errorPosition");

        Sentence.promise(5, "This method needs no tower.");
        new Trial().due(-1, "errorPosition");
    }
}

/** The sentences of rule 6 and of promises 33 to 43, each with its edges. */
final class EdgesOfChimes {
    private static final String BELLS = "beam 300 50000;bell 10 2 4;bell 10 2 4;bell 10 2 4;";
    private static final String TOWER = BELLS + "quiet 0 60;quiet 30 90;quiet 1439 1440;";

    private EdgesOfChimes() {
    }

    static void check() {
        chiming();
        sounding();
        setChime();
        setChimeCounts();
        clearChime();
        isQuiet();
        quietMinutes();
        longestLoud();
        soundsAt();
        soundsPerDay();
        nextSound();
        busiestMinute();
        soundTogether();
        leastDelay();
        leastDelayErrors();
    }

    /** A loud day in which bell 0 hangs and has a chime. */
    private static Trial chiming(int first, int interval) {
        Trial t = Trial.of(BELLS);
        return t.with("hang", 0, 0, 0).with("setChime", 0, first, interval);
    }

    private static void chiming() {
        Sentence.rule(6, "A bell may have a chime, with a first minute and an interval: it chimes at "
                + "the first minute and after every interval, up to minute 1439.");
        Trial t = chiming(1037, 201);
        int[] silent = {0, 836, 1036, 1038, 1237, 1239, 1438};
        for (int minute : silent) {
            t.due(0, "soundsAt", minute);
        }
        int[] chimes = {1037, 1238, 1439};
        for (int minute : chimes) {
            t.due(1, "soundsAt", minute);
        }
        t.due(3, "soundsPerDay", 0);
        chiming(0, 1440).due(1, "soundsAt", 0);
        chiming(0, 1439).due(1, "soundsAt", 1439);
        chiming(0, 1438).due(0, "soundsAt", 1439);
        chiming(1439, 1).due(1, "soundsAt", 1439);
        chiming(1439, 1).due(0, "soundsAt", 0);
        chiming(1439, 1).due(0, "soundsAt", 1438);
        Trial.of(BELLS).with("hang", 0, 0, 0).due(0, "soundsAt", 0);
    }

    private static void sounding() {
        Sentence.rule(6, "It sounds at such a minute if the bell hangs and the minute is not quiet.");
        Trial t = Trial.of(TOWER);
        t.with("setChime", 0, 89, 1);
        t.due(0, "soundsAt", 90);
        t.with("hang", 0, 0, 0);
        t.due(1, "soundsAt", 90);
        t.due(0, "soundsAt", 89);
        t.due(1, "soundsAt", 1438);
        t.due(0, "soundsAt", 1439);
        t.with("takeDown", 0);
        t.due(0, "soundsAt", 90);
    }

    private static void setChime() {
        Sentence.promise(33, "Gives a bell a chime, in place of an earlier one.");
        Trial t = chiming(0, 10);
        t.with("setChime", 0, 5, 1440);
        t.due(0, "soundsAt", 0);
        t.due(0, "soundsAt", 10);
        t.due(1, "soundsAt", 5);
        t.due(1, "soundsPerDay", 0);
        t.due(0, "clearChime", 0);
        t.due(-2, "clearChime", 0);

        Sentence.promise(33, "The bell need not hang.");
        t.due(24, "setChime", 2, 0, 60);
        t.due(0, "leastDelay", 2);
        t.due(0, "soundsPerDay", 2);
        t.with("hang", 2, 0, 9);
        t.due(24, "soundsPerDay", 2);
    }

    private static void setChimeCounts() {
        Sentence.promise(33, "Returns how many minutes of a day it chimes at.");
        Trial t = Trial.of(BELLS + "quiet 0 1440;");
        t.due(1440, "setChime", 0, 0, 1);
        t.due(1, "setChime", 0, 0, 1440);
        t.due(2, "setChime", 0, 0, 1439);
        t.due(1, "setChime", 0, 1, 1439);
        t.due(2, "setChime", 0, 719, 720);
        t.due(1, "setChime", 0, 720, 720);
        t.due(2, "setChime", 0, 720, 719);
        t.due(1, "setChime", 0, 1439, 1);
        t.due(2, "setChime", 0, 1438, 1);
        t.due(1, "setChime", 0, 1438, 2);
        t.due(24, "setChime", 0, 59, 60);

        Sentence.promise(33, "- `first`: the first minute, 0 to 1439", "- `interval`: 1 to 1440");
        t.due(1, "setChime", 0, 1439, 1440);
        t.due(Trial.ARGUMENT, "setChime", 0, 1440, 1);
        t.due(Trial.ARGUMENT, "setChime", 0, -1, 1);
        t.due(Trial.ARGUMENT, "setChime", 0, 0, 0);
        t.due(Trial.ARGUMENT, "setChime", 0, 0, 1441);
        t.due(Trial.ARGUMENT, "setChime", 0, 0, -1);
    }

    private static void clearChime() {
        Sentence.promise(34, "Removes the chime of a bell.");
        Trial t = chiming(0, 10);
        t.with("clearChime", 0);
        t.due(0, "soundsAt", 0);
        t.due(-2, "soundsPerDay", 0);
        t.due(-2, "leastDelay", 0);

        Sentence.promise(34, "Returns the number of bells with a chime afterwards");
        for (int bell = 0; bell < 3; bell++) {
            t.with("setChime", bell, 1439, 1440);
        }
        t.due(2, "clearChime", 2);
        t.due(1, "clearChime", 0);
        t.due(0, "clearChime", 1);

        Sentence.promise(34, "-2 if it has no chime");
        t.due(-2, "clearChime", 1);
        Trial.of(BELLS).due(-2, "clearChime", 0);
    }

    private static void isQuiet() {
        Sentence.promise(35, "Tells whether a minute is quiet.", "Returns true if it is.");
        Trial t = Trial.of(BELLS + "quiet 1 2;quiet 1438 1439;quiet 700 710;");
        int[] quiet = {1, 700, 709, 1438};
        for (int minute : quiet) {
            t.due(1, "isQuiet", minute);
        }
        int[] loud = {0, 2, 699, 710, 1437, 1439};
        for (int minute : loud) {
            t.due(0, "isQuiet", minute);
        }
        Sentence.promise(35, "- `minute`: 0 to 1439");
        Trial ends = Trial.of(TOWER);
        ends.due(1, "isQuiet", 0);
        ends.due(1, "isQuiet", 1439);
        ends.due(Trial.ARGUMENT, "isQuiet", -1);
        ends.due(Trial.ARGUMENT, "isQuiet", 1440);
    }

    private static void quietMinutes() {
        Sentence.promise(36, "Counts the quiet minutes of a day.");
        Trial.of(TOWER).due(91, "quietMinutes");
        Trial.of(BELLS + "quiet 10 20;quiet 20 30;quiet 15 25;").due(20, "quietMinutes");
        Trial.of(BELLS + "quiet 1439 1440;quiet 0 1;").due(2, "quietMinutes");

        Sentence.promise(36, "Returns 0 to 1440.");
        Trial.of(BELLS).due(0, "quietMinutes");
        Trial.of(BELLS + "quiet 0 1440;").due(1440, "quietMinutes");
        Trial.of(BELLS + "quiet 0 720;quiet 720 1440;").due(1440, "quietMinutes");
        Trial.of(BELLS + "quiet 1 1440;").due(1439, "quietMinutes");
        Trial.of(BELLS + "quiet 0 1439;").due(1439, "quietMinutes");
    }

    private static void longestLoud() {
        Sentence.promise(37, "Returns the length of the longest run of successive minutes of a day "
                + "that are not quiet.", "Returns the number of minutes.");
        Trial.of(BELLS).due(1440, "longestLoud");
        Trial.of(BELLS + "quiet 0 1440;").due(0, "longestLoud");
        Trial.of(BELLS + "quiet 0 1439;").due(1, "longestLoud");
        Trial.of(BELLS + "quiet 1 1440;").due(1, "longestLoud");
        Trial.of(BELLS + "quiet 0 1;").due(1439, "longestLoud");
        Trial.of(BELLS + "quiet 1439 1440;").due(1439, "longestLoud");
        Trial.of(BELLS + "quiet 200 300;quiet 1000 1001;").due(700, "longestLoud");
        Trial.of(BELLS + "quiet 900 1440;").due(900, "longestLoud");

        Sentence.promise(37, "(A run does not go on over the end of the day.)");
        Trial.of(BELLS + "quiet 700 701;").due(739, "longestLoud");
        Trial.of(BELLS + "quiet 20 1420;").due(20, "longestLoud");
        Trial.of(BELLS + "quiet 20 1421;quiet 18 19;").due(19, "longestLoud");
    }

    private static void soundsAt() {
        Sentence.promise(38, "Returns the bells that sound at a minute.", "Returns the set.");
        Trial t = Trial.of(TOWER);
        t.with("hang", 0, 0, 0).with("hang", 2, 0, 4);
        t.due(0, "soundsAt", 90);
        for (int bell = 0; bell < 3; bell++) {
            t.with("setChime", bell, 30 * bell, 60);
        }
        t.due(5, "soundsAt", 120);
        t.due(0, "soundsAt", 150);
        t.due(0, "soundsAt", 60);
        t.due(0, "soundsAt", 121);
        t.with("hang", 1, 0, 8);
        t.due(2, "soundsAt", 150);
        t.due(5, "soundsAt", 120);
        t.with("setChime", 1, 120, 1);
        t.due(7, "soundsAt", 120);
        t.due(2, "soundsAt", 121);

        Sentence.promise(38, "- `minute`: 0 to 1439");
        Trial loud = chiming(0, 1439);
        loud.due(1, "soundsAt", 0);
        loud.due(1, "soundsAt", 1439);
        loud.due(Trial.ARGUMENT, "soundsAt", -1);
        loud.due(Trial.ARGUMENT, "soundsAt", 1440);
    }

    private static void soundsPerDay() {
        Sentence.promise(39, "Counts the minutes of a day at which a bell sounds.",
                "Returns the number of minutes");
        chiming(0, 1).due(1440, "soundsPerDay", 0);
        chiming(0, 1439).due(2, "soundsPerDay", 0);
        chiming(1439, 1).due(1, "soundsPerDay", 0);
        Trial t = Trial.of(TOWER);
        t.with("hang", 0, 0, 0).with("setChime", 0, 60, 60);
        t.due(22, "soundsPerDay", 0);
        t.with("setChime", 0, 89, 1);
        t.due(1349, "soundsPerDay", 0);
        t.with("setChime", 0, 1439, 1);
        t.due(0, "soundsPerDay", 0);
        t.with("setChime", 0, 60, 60).with("takeDown", 0);
        t.due(0, "soundsPerDay", 0);

        Sentence.promise(39, "-2 if it has no chime");
        t.due(-2, "soundsPerDay", 1);
        t.with("clearChime", 0);
        t.due(-2, "soundsPerDay", 0);
        t.with("hang", 0, 0, 0);
        t.due(-2, "soundsPerDay", 0);
    }

    private static void nextSound() {
        Sentence.promise(40, "Finds the first minute, not earlier than a given one, at which some "
                + "bell sounds.", "Returns the minute");
        Trial t = Trial.of(TOWER);
        t.with("hang", 0, 0, 0).with("hang", 2, 0, 4);
        t.with("setChime", 0, 60, 60).with("setChime", 1, 100, 1).with("setChime", 2, 130, 700);
        t.due(120, "nextSound", 0);
        t.due(120, "nextSound", 119);
        t.due(120, "nextSound", 120);
        t.due(130, "nextSound", 121);
        t.due(180, "nextSound", 131);
        t.due(1380, "nextSound", 1380);

        Sentence.promise(40, "- `minute`: 0 to 1439");
        Trial loud = chiming(0, 1439);
        loud.due(0, "nextSound", 0);
        loud.due(1439, "nextSound", 1);
        loud.due(1439, "nextSound", 1439);
        loud.due(Trial.ARGUMENT, "nextSound", -1);
        loud.due(Trial.ARGUMENT, "nextSound", 1440);

        Sentence.promise(40, "-2 if there is none until the end of the day");
        t.due(-2, "nextSound", 1381);
        t.due(-2, "nextSound", 1439);
        t.with("setChime", 0, 1439, 1);
        t.due(-2, "nextSound", 831);
        t.due(830, "nextSound", 830);
        Trial.of(BELLS).due(-2, "nextSound", 0);
        Trial.of(BELLS).with("setChime", 0, 0, 1).due(-2, "nextSound", 0);
        chiming(0, 1439).with("setChime", 0, 0, 1440).due(-2, "nextSound", 1);
    }

    private static void busiestMinute() {
        Sentence.promise(41, "Finds the minute at which the most bells sound", "Returns the minute");
        Trial t = Trial.of(TOWER);
        t.with("hang", 0, 0, 0).with("hang", 1, 0, 4).with("setChime", 0, 60, 60);
        t.due(120, "busiestMinute");
        t.with("setChime", 1, 1438, 1);
        t.due(120, "busiestMinute");
        t.with("setChime", 1, 0, 1380);
        t.due(1380, "busiestMinute");
        t.with("setChime", 2, 240, 240);
        t.due(1380, "busiestMinute");
        t.with("hang", 2, 0, 8);
        t.due(240, "busiestMinute");
        t.with("setChime", 1, 0, 720);
        t.due(720, "busiestMinute");

        Sentence.promise(41, "of several the first");
        Trial loud = chiming(0, 1439);
        loud.due(0, "busiestMinute");
        loud.with("hang", 1, 0, 4).with("setChime", 1, 0, 1439);
        loud.due(0, "busiestMinute");
        loud.with("setChime", 1, 1439, 1);
        loud.due(1439, "busiestMinute");
        loud.with("setChime", 1, 700, 1);
        loud.with("setChime", 0, 700, 1);
        loud.due(700, "busiestMinute");

        Sentence.promise(41, "-2 if no bell sounds at all");
        loud.with("takeDown", 1).with("takeDown", 0);
        loud.due(-2, "busiestMinute");
        Trial.of(BELLS).with("hang", 0, 0, 0).due(-2, "busiestMinute");
        Trial quiet = Trial.of(BELLS + "quiet 0 1440;");
        quiet.with("hang", 0, 0, 0).with("setChime", 0, 0, 1).due(-2, "busiestMinute");
    }

    private static void soundTogether() {
        Sentence.promise(42, "Counts the minutes at which two bells sound together.",
                "Returns the number of minutes");
        Trial t = Trial.of(TOWER);
        t.with("hang", 0, 0, 0).with("hang", 1, 0, 4);
        t.with("setChime", 0, 60, 60).with("setChime", 1, 0, 240);
        t.due(5, "soundTogether", 0, 1);
        t.due(5, "soundTogether", 1, 0);
        t.due(22, "soundTogether", 0, 0);
        t.with("setChime", 1, 30, 60);
        t.due(0, "soundTogether", 0, 1);
        t.with("setChime", 1, 0, 1).with("setChime", 0, 0, 1);
        t.due(1349, "soundTogether", 0, 1);
        t.with("takeDown", 1);
        t.due(0, "soundTogether", 0, 1);
        t.due(0, "soundTogether", 1, 0);
        t.due(0, "soundTogether", 1, 1);
        Trial loud = chiming(0, 1439);
        loud.with("hang", 2, 0, 4).with("setChime", 2, 1439, 1);
        loud.due(1, "soundTogether", 0, 2);
        loud.with("setChime", 2, 0, 1439);
        loud.due(2, "soundTogether", 2, 0);

        Sentence.promise(42, "-2 if one of them has no chime");
        t.due(-2, "soundTogether", 0, 2);
        t.due(-2, "soundTogether", 2, 0);
        t.due(-2, "soundTogether", 2, 2);
        t.with("clearChime", 0);
        t.due(-2, "soundTogether", 0, 1);
    }

    private static void delay(int due, String quiet, int first, int interval) {
        Trial t = Trial.of(BELLS + quiet);
        t.with("setChime", 0, first, interval);
        Check.same("leastDelay(0) after setChime(0, " + first + ", " + interval + ") and " + quiet,
                due, t.answer("leastDelay", 0));
    }

    private static void leastDelay() {
        Sentence.promise(43, "Finds the least delay by which the first minute of a chime must be put "
                + "off, up to minute 1439, so that the bell chimes at no quiet minute.",
                "Returns the delay in minutes");
        delay(0, "", 0, 1);
        delay(0, "", 1439, 1440);
        delay(0, "quiet 0 90;", 90, 7);
        delay(1, "quiet 0 90;", 89, 7);
        delay(90, "quiet 0 90;", 0, 1);
        delay(30, "quiet 0 90;", 60, 60);
        delay(0, "quiet 61 90;", 60, 60);
        delay(1439, "quiet 0 1439;", 0, 1440);
        delay(1439, "quiet 0 1439;", 0, 1);
        delay(1419, "quiet 0 1439;", 20, 60);
        delay(0, "quiet 0 1439;", 1439, 1);
        delay(1, "quiet 1439 1440;", 99, 10);
        delay(0, "quiet 1439 1440;", 1438, 2);
        delay(1, "quiet 500 501;quiet 605 606;", 100, 5);
        delay(506, "quiet 500 501;quiet 605 606;", 100, 1);
        delay(102, "quiet 500 501;quiet 501 502;", 400, 2);
    }

    private static void leastDelayErrors() {
        Sentence.promise(43, "-3 if there is no such delay");
        delay(-3, "quiet 1439 1440;", 1439, 1);
        delay(-3, "quiet 1439 1440;", 0, 1);
        delay(-3, "quiet 1438 1440;", 1438, 1440);
        delay(-3, "quiet 0 1440;", 0, 1440);
        delay(-3, "quiet 700 1440;", 700, 3);
        delay(-3, "quiet 700 1440;", 0, 1);

        Sentence.promise(43, "-2 if it has no chime");
        Trial t = Trial.of(BELLS + "quiet 0 1440;");
        t.due(-2, "leastDelay", 0);
        t.with("setChime", 0, 0, 1);
        t.due(-3, "leastDelay", 0);
        t.with("clearChime", 0);
        t.due(-2, "leastDelay", 0);
        t.due(-2, "leastDelay", 2);
    }
}

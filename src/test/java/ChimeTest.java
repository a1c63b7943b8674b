/** Promises 33 to 43: chimes and quiet hours. */
public final class ChimeTest {
    private static final String BELLS = "beam 300 50000;bell 10 2 4;bell 10 2 4;bell 10 2 4;";
    private static final String TOWER = BELLS + "quiet 0 60;quiet 30 90;quiet 1439 1440;";

    private ChimeTest() {
    }

    public static void main(String[] args) {
        quietHours();
        otherQuietHours();
        setting();
        sounding();
        soundingTogether();
        soundingAtMidnight();
        delays();
        Check.finish();
    }

    private static void quiet(BellTowerPlanner p, int minute, boolean due) {
        Check.due("isQuiet(" + minute + ")", due ? 1 : 0, () -> p.isQuiet(minute) ? 1 : 0);
    }

    private static void quietHours() {
        BellTowerPlanner p = Check.tower(TOWER);
        quiet(p, 0, true);
        quiet(p, 59, true);
        quiet(p, 89, true);
        quiet(p, 90, false);
        quiet(p, 1438, false);
        quiet(p, 1439, true);
        Check.due("quietMinutes()", 91, p::quietMinutes);
        Check.due("longestLoud()", 1349, p::longestLoud);
    }

    private static void otherQuietHours() {
        BellTowerPlanner none = Check.tower(BELLS);
        Check.due("quietMinutes() of none", 0, none::quietMinutes);
        Check.due("longestLoud() of none", 1440, none::longestLoud);
        quiet(none, 0, false);
        BellTowerPlanner all = Check.tower(BELLS + "quiet 0 1440;");
        Check.due("quietMinutes() of all", 1440, all::quietMinutes);
        Check.due("longestLoud() of all", 0, all::longestLoud);
        BellTowerPlanner one = Check.tower(BELLS + "quiet 700 701;");
        Check.due("quietMinutes() of one", 1, one::quietMinutes);
        Check.due("the run does not go on over midnight", 739, one::longestLoud);
        BellTowerPlanner two = Check.tower(BELLS + "quiet 1000 1001;quiet 200 300;");
        Check.due("quietMinutes() of two", 101, two::quietMinutes);
        Check.due("the run between them", 700, two::longestLoud);
    }

    private static void setting() {
        BellTowerPlanner p = Check.tower(TOWER);
        Check.due("clearChime() without a chime", -2, () -> p.clearChime(0));
        Check.due("setChime(0, 0, 1440)", 1, () -> p.setChime(0, 0, 1440));
        Check.due("setChime(0, 0, 1439)", 2, () -> p.setChime(0, 0, 1439));
        Check.due("setChime(0, 1, 1439)", 1, () -> p.setChime(0, 1, 1439));
        Check.due("setChime(0, 1439, 1)", 1, () -> p.setChime(0, 1439, 1));
        Check.due("setChime(0, 0, 1)", 1440, () -> p.setChime(0, 0, 1));
        Check.due("setChime(1, 30, 60)", 24, () -> p.setChime(1, 30, 60));
        Check.due("setChime(2, 39, 100)", 15, () -> p.setChime(2, 39, 100));
        Check.due("clearChime(0)", 2, () -> p.clearChime(0));
        Check.due("clearChime(0) again", -2, () -> p.clearChime(0));
        Check.due("clearChime(2)", 1, () -> p.clearChime(2));
        Check.due("clearChime(1)", 0, () -> p.clearChime(1));
        p.setChime(0, 1, 1);
        p.setChime(1, 1, 1);
        Check.due("clearChime(1) beside bell 0", 1, () -> p.clearChime(1));
    }

    private static void sounding() {
        BellTowerPlanner p = Check.tower(TOWER);
        Check.due("soundsPerDay() without a chime", -2, () -> p.soundsPerDay(0));
        Check.due("busiestMinute() without a chime", -2, p::busiestMinute);
        p.setChime(0, 60, 60);
        Check.due("soundsPerDay() without hanging", 0, () -> p.soundsPerDay(0));
        Check.due("soundsAt(120) without hanging", 0, () -> p.soundsAt(120));
        Check.due("nextSound(0) without hanging", -2, () -> p.nextSound(0));
        Check.due("busiestMinute() without hanging", -2, p::busiestMinute);
        p.hang(0, 0, 0);
        Check.due("23 chimes, one of them quiet", 22, () -> p.soundsPerDay(0));
        Check.due("soundsAt(60)", 0, () -> p.soundsAt(60));
        Check.due("soundsAt(119)", 0, () -> p.soundsAt(119));
        Check.due("soundsAt(120)", 1, () -> p.soundsAt(120));
        Check.due("soundsAt(1380)", 1, () -> p.soundsAt(1380));
        Check.due("nextSound(0)", 120, () -> p.nextSound(0));
        Check.due("nextSound(120)", 120, () -> p.nextSound(120));
        Check.due("nextSound(121)", 180, () -> p.nextSound(121));
        Check.due("nextSound(1380)", 1380, () -> p.nextSound(1380));
        Check.due("nextSound(1381)", -2, () -> p.nextSound(1381));
        Check.due("busiestMinute() of one bell", 120, p::busiestMinute);
        p.setChime(0, 1439, 1);
        Check.due("the last minute is quiet", 0, () -> p.soundsPerDay(0));
        Check.due("busiestMinute() of no sound", -2, p::busiestMinute);
        p.setChime(0, 1438, 1);
        Check.due("nextSound(1438)", 1438, () -> p.nextSound(1438));
        Check.due("nextSound(1439)", -2, () -> p.nextSound(1439));
    }

    private static void soundingTogether() {
        BellTowerPlanner p = Check.tower(TOWER);
        p.hang(0, 0, 0);
        p.hang(2, 0, -10);
        p.setChime(0, 60, 60);
        Check.due("the other has no chime", -2, () -> p.soundTogether(0, 2));
        Check.due("the one has no chime", -2, () -> p.soundTogether(1, 0));
        p.setChime(1, 240, 240);
        Check.due("the other does not hang", 0, () -> p.soundTogether(0, 1));
        Check.due("busiestMinute() before it hangs", 120, p::busiestMinute);
        p.hang(1, 0, 10);
        Check.due("240, 480, .. 1200", 5, () -> p.soundTogether(0, 1));
        Check.due("the other way", 5, () -> p.soundTogether(1, 0));
        Check.due("a bell with itself", 22, () -> p.soundTogether(0, 0));
        Check.due("soundsAt(240)", 3, () -> p.soundsAt(240));
        Check.due("the first with two bells", 240, p::busiestMinute);
        p.setChime(2, 0, 720);
        Check.due("soundsAt(720)", 7, () -> p.soundsAt(720));
        Check.due("the one with three bells", 720, p::busiestMinute);
        Check.due("0 is quiet", 1, () -> p.soundTogether(0, 2));
    }

    private static void soundingAtMidnight() {
        BellTowerPlanner p = Check.tower(BELLS);
        p.hang(0, 0, 0);
        p.hang(1, 0, 4);
        p.setChime(0, 0, 1439);
        p.setChime(1, 0, 1440);
        Check.due("busiestMinute()", 0, p::busiestMinute);
        Check.due("soundsPerDay(0)", 2, () -> p.soundsPerDay(0));
        Check.due("soundTogether(0, 1)", 1, () -> p.soundTogether(0, 1));
        Check.due("nextSound(0)", 0, () -> p.nextSound(0));
        Check.due("nextSound(1)", 1439, () -> p.nextSound(1));
        Check.due("soundsAt(0)", 3, () -> p.soundsAt(0));
        Check.due("soundsAt(1439)", 1, () -> p.soundsAt(1439));
    }

    private static void delays() {
        BellTowerPlanner p = Check.tower(TOWER);
        delay(p, "no chime", 0, 0, -2);
        delay(p, "from quiet hours", 50, 1440, 40);
        delay(p, "no quiet minute", 90, 7, 0);
        delay(p, "61 to 89 are quiet too", 60, 60, 30);
        delay(p, "99, 109, .. 1439", 99, 10, 1);
        delay(p, "every second minute from 91", 91, 2, 1);
        delay(p, "every second minute from 0", 0, 2, 90);
        delay(p, "the last minute itself", 1439, 1, -3);
        delay(p, "every minute", 0, 1, -3);
        delay(p, "from the last minute but one", 1438, 1, -3);
        delay(p, "once, at the last minute but one", 1438, 2, 0);
        BellTowerPlanner late = Check.tower(BELLS + "quiet 0 1439;");
        delay(late, "up to minute 1439", 0, 1440, 1439);
        delay(late, "up to it, every minute", 0, 1, 1439);
        delay(late, "up to it, every hour", 20, 60, 1419);
        BellTowerPlanner all = Check.tower(BELLS + "quiet 0 1440;");
        delay(all, "all is quiet", 700, 3, -3);
        BellTowerPlanner none = Check.tower(BELLS);
        delay(none, "nothing is quiet", 0, 1, 0);
        BellTowerPlanner holes = Check.tower(BELLS + "quiet 500 501;quiet 605 606;");
        delay(holes, "past the later hole of the class", 100, 5, 1);
        delay(holes, "each class has a hole but one", 100, 1, 506);
        delay(holes, "all from the later hole on", 605, 1, 1);
    }

    private static void delay(BellTowerPlanner p, String name, int first, int interval, int due) {
        if (interval > 0) {
            p.setChime(0, first, interval);
        }
        Check.due("leastDelay(0), " + name, due, () -> p.leastDelay(0));
    }
}

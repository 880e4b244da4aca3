/** Promises 9 to 15: days that are done, judged, drawn, left out; leaks. */
public final class DaysTest {
    private static final Due due = new Due();

    public static void main(String[] args) {
        daysPass();
        badOnesSpoilTheirNeighbours();
        daysAreRefused();
        daysAreJudged();
        daysArePerformed();
        weeksAreDrawn();
        shelvesAreLeftAlone();
        turnsAreMissed();
        barrelsLeak();
        due.end();
    }

    private static void cask(HeardBarrels x, int p, int kind, int ripe, int idle) {
        due.is("kind of " + p, x.barrel(p, 0), kind);
        due.is("RIPE of " + p, x.barrel(p, 2), ripe);
        due.is("IDLE of " + p, x.barrel(p, 3), idle);
    }

    private static void daysPass() {
        HeardBarrels x = due.at("barrel 4 ripe 40 idle 2;gap;barrel 9 ripe 95;gap;barrel 3 ripe 10 bad;gap;"
                + "barrel 5 ripe 20 idle 9 stones;");
        due.is("day", x.day(1 | 64), 0);
        cask(x, 0, 0, 48, 0);
        cask(x, 1, 3, 0, 0);
        cask(x, 2, 0, 100, 1);
        cask(x, 4, 1, 10, 1);
        cask(x, 6, 2, 20, 0);
        due.is("DAY", x.count(4), 1);
        due.is("day", x.day(16), 0);
        cask(x, 0, 0, 52, 1);
        cask(x, 4, 1, 10, 0);
        due.is("day", x.day(0), 0);
        due.is("day", x.day(0), 1);
        cask(x, 2, 1, 100, 4);
        due.is("day", x.day(0), 1);
        cask(x, 0, 1, 64, 4);
        for (int i = 0; i < 120; i++) {
            x.day(0);
        }
        cask(x, 0, 1, 64, 99);
        cask(x, 6, 2, 20, 99);
    }

    private static void badOnesSpoilTheirNeighbours() {
        HeardBarrels x = due.at("barrel 1;barrel 1 bad;barrel 1;barrel 1;barrel 1 stones;left 2;");
        due.is("day", x.day(0), 0);
        cask(x, 0, 0, 1, 2);
        cask(x, 1, 1, 0, 1);
        cask(x, 2, 0, 1, 2);
        cask(x, 3, 0, 1, 1);
        due.is("day", x.day(0), 2);
        // place 2 was sound as the day began, so place 3 waits 1 day alone
        cask(x, 3, 0, 2, 2);
        cask(x, 2, 1, 2, 4);
        due.is("day", x.day(8), 0);
        cask(x, 3, 0, 4, 0);
        due.is("day", x.day(0), 0);
        cask(x, 3, 0, 5, 2);
        cask(x, 4, 2, 0, 4);
        HeardBarrels y = due.at("barrel 1 bad;barrel 1;barrel 1 bad;left 6;");
        y.day(0);
        due.is("2 in all between two bad ones", y.barrel(1, 3), 2);
    }

    private static void daysAreRefused() {
        HeardBarrels x = due.at("barrel 1;gap;barrel 1;barrel 1;hands 1;");
        String before = Due.state(x);
        due.is("day, a gap", x.day(2), -3);
        due.is("day, no place", x.day(16), -3);
        due.is("day, far off", x.day(-1), -3);
        due.is("day, hands", x.day(5), -4);
        due.same("nothing changes", Due.state(x), before);
        toLastDate(x);
        due.is("day, 9999", x.day(0), -5);
        due.is("day, a gap", x.day(2), -3);
        due.is("day, hands", x.day(5), -4);
        due.is("week, 9999", x.week(1, 1), -5);
        due.is("week, days", x.week(1, 0), -3);
        due.is("DAY", x.count(4), 9999);
        due.is("leftAlone", x.leftAlone(30), 13);
    }

    private static void toLastDate(HeardBarrels x) {
        for (int i = 0; i < 333; i++) {
            x.week(i, 30);
        }
        due.is("week, above 9999", x.week(0, 10), -5);
        x.week(0, 9);
    }

    private static void daysAreJudged() {
        HeardBarrels x = due.at("barrel 1;gap;barrel 1;barrel 1;hands 2;left 1;");
        String before = Due.state(x);
        due.is("judge, MISSING", x.judge(0, 0), -6);
        due.is("judge, what and MISSING", x.judge(0, 4), -2);
        due.is("judge, the row", x.judge(4, 0), -2);
        due.is("judge, the row", x.judge(-1, 0), -2);
        Due.row(x, 0, 2, 5, 1, 12);
        judged(x, -1, 0, 8, 5);
        due.is("judge, what", x.judge(0, -1), -2);
        Due.row(x, 0, 3, 5, 13, 2);
        judged(x, 1, 2, 0, 2);
        Due.row(x, 0, 3, 5, 1L << 40 | 5);
        judged(x, 1, 1, 0, 2);
        Due.row(x, 0, 0, -1);
        judged(x, 0, 1, 0, 0);
        Due.row(x, 0, 0);
        judged(x, -1, 0, 0, 0);
        due.same("nothing changes", Due.state(x), before);
        toLastDate(x);
        Due.row(x, 0, 3, 0);
        due.is("judge, 9999", x.judge(0, 1), 3);
        due.is("its place", x.judge(0, 0), 0);
        Due.row(x, 0, 3, 13);
        due.is("judge, hands first", x.judge(0, 1), 2);
        due.is("perform", x.perform(0), 0);
    }

    private static void judged(HeardBarrels x, int... want) {
        for (int what = 0; what < 4; what++) {
            due.is("judge(0, " + what + ")", x.judge(0, what), want[what]);
        }
    }

    private static void daysArePerformed() {
        HeardBarrels x = due.at("barrel 1;gap;barrel 1;barrel 1;hands 2;left 1;");
        due.is("perform, MISSING", x.perform(3), -6);
        due.is("perform, the row", x.perform(4), -2);
        Due.row(x, 3, 1, 5, 1, 13, 1);
        due.is("perform", x.perform(3), 2);
        due.is("DAY", x.count(4), 2);
        due.is("bad ones", x.count(3), 8);
        due.is("RIPE of all", x.count(12), 4 + 3 + 2);
        Due.row(x, 3, 1, 5, 5);
        due.is("perform", x.perform(3), 2);
        due.is("DAY", x.count(4), 4);
    }

    private static void weeksAreDrawn() {
        HeardBarrels x = due.at("barrel 1;gap;barrel 1;barrel 2 bad;barrel 1 stones;hands 2;left 6;");
        HeardBarrels y = due.at("barrel 1;gap;barrel 1;barrel 2 bad;barrel 1 stones;hands 2;left 6;");
        int seed = -77;
        int spoilt = 0;
        for (int i = 0; i < 12; i++) {
            int set = 0;
            for (int p = 0; p < 5; p++) {
                if (p != 1 && Integer.bitCount(set) < 2) {
                    seed = 1103515245 * seed + 12345;
                    set += (seed >>> 16) % 2 << p;
                }
            }
            spoilt += y.day(set);
        }
        due.is("week", x.week(-77, 12), spoilt);
        due.same("as by days", Due.state(x), Due.state(y));
        String before = Due.state(x);
        due.is("week, 0", x.week(1, 0), -3);
        due.is("week, 31", x.week(1, 31), -3);
        due.same("nothing changes", Due.state(x), before);
    }

    private static void shelvesAreLeftAlone() {
        HeardBarrels x = due.at("barrel 1 idle 1;barrel 1;barrel 1;gap;barrel 1 stones;barrel 1 bad;left 2;");
        String before = Due.state(x);
        int[] want = {32, 32, 32 + 1, 32 + 1 + 2 + 4, 39};
        for (int n = 0; n < want.length; n++) {
            due.is("leftAlone(" + n + ")", x.leftAlone(n), want[n]);
        }
        due.is("leftAlone(30)", x.leftAlone(30), 39);
        due.is("leftAlone(31)", x.leftAlone(31), -3);
        due.is("leftAlone(-1)", x.leftAlone(-1), -3);
        due.same("nothing changes", Due.state(x), before);
    }

    private static void turnsAreMissed() {
        HeardBarrels x = due.at("barrel 1;gap;barrel 1;hands 1;left 2;");
        Due.row(x, 0, 2, 0, 1, 4, 0);
        String before = Due.state(x);
        due.is("who is bad by all", x.judge(0, 2), 0);
        due.is("missed(0, 0)", x.missed(0, 0), 1 | 8);
        due.is("missed(0, 1)", x.missed(0, 1), 2);
        due.is("missed(0, 4)", x.missed(0, 4), 4);
        due.is("missed(0, 5)", x.missed(0, 5), 0);
        due.is("missed, a gap", x.missed(0, 2), 0);
        due.is("missed, no place", x.missed(0, 8), -3);
        due.is("missed, no place", x.missed(0, -1), -3);
        due.is("missed, MISSING", x.missed(1, -1), -6);
        due.is("missed, the row", x.missed(4, -1), -2);
        Due.row(x, 0, 2, new long[12]);
        due.is("missed, 12", x.missed(0, 5), 4095);
        Due.row(x, 0, 2, 5, 2);
        due.is("missed, can't be", x.missed(0, -1), -5);
        x.numbers(0, 2, 13);
        x.write(0, 0, 5);
        due.is("missed, 13", x.missed(0, -1), -4);
        x.numbers(0, 2, 0);
        due.is("missed, no days", x.missed(0, 0), 0);
        due.same("nothing changes", Due.state(x), before);
    }

    private static void barrelsLeak() {
        HeardBarrels x = due.at("barrel 1;barrel 9;barrel 2 bad;barrel 3 stones;barrel 8;gap;barrel 1;");
        String before = Due.state(x);
        due.is("leak, the place", x.leak(7, 0), -2);
        due.is("leak, the place", x.leak(-1, 1), -2);
        due.is("leak, n", x.leak(0, 0), -3);
        due.is("leak, n", x.leak(0, 13), -3);
        due.is("leak, a gap", x.leak(5, 12), 0);
        due.same("nothing changes", Due.state(x), before);
        due.is("leak(0, 4)", x.leak(0, 4), 1);
        due.is("SALT", x.barrel(0, 1), 2);
        due.is("SALT", x.barrel(4, 1), 8);
        due.is("leak(0, 12)", x.leak(0, 12), 2);
        int[] want = {3, 9, 2, 3, 9, 0, 1};
        for (int p = 0; p < 7; p++) {
            due.is("SALT of " + p, x.barrel(p, 1), want[p]);
        }
        due.is("leak(6, 12)", x.leak(6, 12), 1);
        due.is("DAY", x.count(4), 0);
    }
}

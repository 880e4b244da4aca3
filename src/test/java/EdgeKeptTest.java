/** Edges of "Terms" on KEPT, LONGEST, RIPE, ORDERS, APART and of promises 28 to 33, each sentence for itself. */
public final class EdgeKeptTest {
    private static final Due due = new Due();
    private static final int LEAST = Integer.MIN_VALUE;
    private static final int GREATEST = Integer.MAX_VALUE;

    public static void main(String[] args) {
        keptForDays();
        keptByTheLatestTurns();
        keptBesideABadOne();
        keptByHands();
        keptAtOnce();
        fiveSoundBarrels();
        keptRefusesInItsOrder();
        longestAtItsEnds();
        longestOfFive();
        ripeInDays();
        ripeInOfOthers();
        ripeByADay();
        ripeByTurns();
        ripeByHands();
        ripeByTheFewestTurns();
        ripeByRefuses();
        ordersInTime();
        tenOrders();
        ordersBelowZero();
        ordersTheFirstWay();
        ordersRefuseInTheirOrder();
        apartAtItsEnds();
        apartWithGaps();
        apartOfEight();
        apartRefusesInItsOrder();
        due.end();
    }

    private static void plan(String text, int days, int turns, int... sets) {
        HeardBarrels x = due.at(text);
        due.is("kept(" + days + ", 0) of " + text, x.kept(days, 0), turns);
        for (int k = 0; k < 8; k++) {
            due.is("kept(" + days + ", " + (10 + k) + ") of " + text, x.kept(days, 10 + k),
                    k < sets.length ? sets[k] : -1);
        }
    }

    private static void keptForDays() {
        due.about("KEPT for d DAYS (1 to 8); NONE: not so many; -3: d");
        for (int d = 1; d <= 8; d++) {
            plan("barrel 1 stones;", d, 0, new int[d]);
        }
        Twins rich = new Twins(due, Twins::rich);
        int[] wrong = {0, 9, -1, LEAST, GREATEST};
        for (int d : wrong) {
            rich.still("kept(" + d + ", 0)", -3, x -> x.kept(d, 0));
            rich.still("kept(" + d + ", 10)", -3, x -> x.kept(d, 10));
            rich.still("kept(" + d + ", 17)", -3, x -> x.kept(d, 17));
        }
        // PLACE 3 (IDLE 3) at once, PLACE 0 (by a bad one, left 3) on every other day
        rich.still("kept(1, 0)", 1, x -> x.kept(1, 0));
        rich.still("kept(1, 10)", 8, x -> x.kept(1, 10));
        rich.still("kept(1, 11)", -1, x -> x.kept(1, 11));
        rich.still("kept(8, 0)", 2 + 4, x -> x.kept(8, 0));
        int[] sets = {8, 1, 0, 1, 8, 1, 0, 1};
        for (int k = 0; k < sets.length; k++) {
            int what = 10 + k;
            rich.still("kept(8, " + what + ")", sets[k], x -> x.kept(8, what));
        }
        rich.still("kept(7, 17)", -1, x -> x.kept(7, 17));
    }

    private static void keptByTheLatestTurns() {
        due.about("the fewest turns of all together; the least set by which it can still be so, DAY by DAY");
        for (int left = 1; left <= 6; left++) {
            for (int d = 1; d <= 8; d++) {
                int[] sets = new int[d];
                for (int k = left; k < d; k += left + 1) {
                    sets[k] = 1;
                }
                plan("barrel 1;left " + left + ";", d, d / (left + 1), sets);
            }
        }
        plan("barrel 1 idle 6;left 6;", 7, 1, 1, 0, 0, 0, 0, 0, 0);
        plan("barrel 1 idle 6;left 6;", 8, 2, 1, 0, 0, 0, 0, 0, 0, 1);
        plan("barrel 1 idle 5;left 6;", 8, 1, 0, 1, 0, 0, 0, 0, 0, 0);
    }

    private static void keptBesideABadOne() {
        due.about("no sound barrel is bad behind any of these");
        int[] waits = {0, 0, 1, 1, 2, 2, 3};
        for (int left = 1; left <= 6; left++) {
            int[] sets = new int[8];
            int turns = 0;
            for (int k = waits[left]; k < 8; k += waits[left] + 1) {
                sets[k] = 2;
                turns++;
            }
            plan("barrel 1 bad;barrel 1;left " + left + ";", 8, turns, sets);
            plan("barrel 1 bad;barrel 1;barrel 1 bad;left " + left + ";", 8, turns, sets);
        }
        // a gap between, stones beside
        plan("barrel 1 bad;gap;barrel 1;left 6;", 7, 1, 0, 0, 0, 0, 0, 0, 4);
        plan("barrel 1 stones;barrel 1;left 6;", 7, 1, 0, 0, 0, 0, 0, 0, 2);
    }

    private static void keptByHands() {
        due.about("at most hands a DAY");
        String five = "barrel 1;".repeat(5) + "left 4;";
        plan(five + "hands 1;", 4, 0, 0, 0, 0, 0);
        plan(five + "hands 1;", 5, 5, 1, 2, 4, 8, 16);
        plan(five + "hands 2;", 5, 5, 0, 0, 1, 6, 24);
        plan(five + "hands 3;", 5, 5, 0, 0, 0, 3, 28);
        plan(five + "hands 4;", 5, 5, 0, 0, 0, 1, 30);
        plan(five + "hands 5;", 5, 5, 0, 0, 0, 0, 31);
        plan(five + "hands 12;", 5, 5, 0, 0, 0, 0, 31);
        // with left 3 five can't be turned within four days by one hand
        plan("barrel 1;".repeat(5) + "left 3;hands 1;", 3, 0, 0, 0, 0);
        plan("barrel 1;".repeat(5) + "left 3;hands 1;", 4, -1);
        plan("barrel 1;".repeat(4) + "left 3;hands 1;", 4, 4, 1, 2, 4, 8);
    }

    private static void keptAtOnce() {
        due.about("NONE: it can't be");
        String five = "barrel 1 idle 4;".repeat(5) + "left 4;";
        plan(five + "hands 5;", 1, 5, 31);
        plan(five + "hands 4;", 1, -1);
        plan(five + "hands 4;", 8, -1);
        plan("barrel 1 idle 9;left 1;", 1, 1, 1);
        plan("barrel 1 idle 9;left 1;", 2, 1, 1, 0);
        plan("barrel 1 idle 9;left 1;", 3, 2, 1, 0, 1);
        plan("barrel 1 idle 9;barrel 1 idle 9;hands 1;", 1, -1);
        plan("barrel 1 idle 9;barrel 1 idle 2;hands 1;", 2, 2, 1, 2);
        // what is bad already is let be
        plan("barrel 1 idle 9 bad;barrel 1 idle 9 stones;hands 1;", 8, 0, 0, 0, 0, 0, 0, 0, 0, 0);
    }

    private static void fiveSoundBarrels() {
        due.about("at most 5 sound barrels; -4: more than 5 sound barrels");
        String others = "gap;barrel 1 bad;barrel 1 bad;barrel 1 stones;barrel 1 stones;gap;";
        String four = others + "gap;" + "barrel 1;".repeat(4);
        plan(four, 4, 4, 0, 0, 0, 0b11110000000);
        String five = others + "barrel 1;".repeat(5);
        plan(five, 4, 5, 0, 0, 0, 0b11111000000);
        due.is("longest of five", due.at(five).longest(), 30);
        String[] many = {"gap;barrel 1 bad;barrel 1 stones;" + "barrel 1;".repeat(6), "barrel 1;".repeat(6),
            "barrel 1;".repeat(12)};
        for (String text : many) {
            Twins twins = new Twins(due, x -> Due.house(x, text));
            twins.still("kept(1, 0)", -4, x -> x.kept(1, 0));
            twins.still("kept(8, 17)", -4, x -> x.kept(8, 17));
            twins.still("longest", -4, x -> x.longest());
        }
        HeardBarrels x = due.at("barrel 1;".repeat(5) + "barrel 1 idle 3;gap;");
        due.is("six", x.longest(), -4);
        x.day(31);
        due.is("one went bad: five", x.kept(1, 0), 0);
        x.put(6, 1);
        due.is("one was put: six", x.kept(1, 0), -4);
    }

    private static void keptRefusesInItsOrder() {
        due.about("-2: what (10 to 17); -3: d; -4: more than 5 sound barrels");
        Twins rich = new Twins(due, Twins::rich);
        int[] wrong = {-1, 1, 9, 18, LEAST, GREATEST};
        for (int what : wrong) {
            rich.still("kept(1, " + what + ")", -2, x -> x.kept(1, what));
            rich.still("kept(9, " + what + ")", -2, x -> x.kept(9, what));
        }
        HeardBarrels six = due.at("barrel 1;".repeat(6));
        due.is("kept(0, 18)", six.kept(0, 18), -2);
        due.is("kept(1, 9)", six.kept(1, 9), -2);
        due.is("kept(0, 17)", six.kept(0, 17), -3);
        due.is("kept(9, 0)", six.kept(9, 0), -3);
        due.is("kept(1, 10)", six.kept(1, 10), -4);
    }

    private static void longest(String text, int days) {
        new Twins(due, x -> Due.house(x, text)).still("longest of " + text, days, x -> x.longest());
    }

    private static void longestAtItsEnds() {
        due.about("LONGEST: for how many DAYS at most (0 to 30) it can be so; 30: at least so many");
        longest("", 30);
        longest("barrel 1 bad;barrel 1 stones;gap;", 30);
        longest("barrel 1 idle 9;hands 1;left 1;", 30);
        longest("barrel 1 idle 9;gap;barrel 1 idle 9;hands 1;", 0);
        longest("barrel 1 idle 9;gap;barrel 1 idle 9;hands 2;", 30);
        longest("barrel 1 idle 3;gap;barrel 1 idle 3;hands 1;", 0);
        longest("barrel 1 idle 3;gap;barrel 1 idle 2;hands 1;", 30);
        // PLACE 0 is turned each day
        longest("barrel 1;barrel 1 bad;gap;barrel 1;hands 1;left 1;", 1);
        longest("barrel 1;barrel 1 bad;gap;barrel 1 idle 1;hands 1;left 1;", 0);
        // the most that isn't 30
        longest("barrel 1;barrel 1 bad;barrel 1 idle 4;barrel 1 idle 6;barrel 1 bad;gap;barrel 1;barrel 1 idle 4;"
                + "hands 1;left 6;", 9);
    }

    private static void longestOfFive() {
        due.about("LONGEST");
        for (int left = 1; left <= 6; left++) {
            // one hand turns so many, each every so many days; one more goes bad on the day behind
            for (int many = 1; many <= 5; many++) {
                longest("barrel 1;".repeat(many) + "hands 1;left " + left + ";", many <= left + 1 ? 30 : left);
            }
            longest("barrel 1;".repeat(5) + "hands 5;left " + left + ";", 30);
        }
    }

    private static void ripeInDays() {
        due.about("how many DAYS a sound barrel needs to be RIPE 100, if it is turned on each (0: it is)");
        int[] salts = {1, 1, 1, 1, 1, 1, 1, 9, 9, 9, 9, 9, 9, 9};
        int[] ripes = {0, 1, 2, 97, 98, 99, 100, 0, 63, 64, 81, 82, 99, 100};
        int[] days = {50, 50, 49, 2, 1, 1, 0, 6, 3, 2, 2, 1, 1, 0};
        for (int i = 0; i < salts.length; i++) {
            String text = "barrel " + salts[i] + " ripe " + ripes[i] + ";";
            HeardBarrels x = due.at(text);
            due.is("ripeIn(0) of " + text, x.ripeIn(0), days[i]);
            for (int k = 1; k < days[i]; k++) {
                x.day(1);
            }
            due.is("a day before", x.ripeIn(0), days[i] == 0 ? 0 : 1);
            x.day(1);
            due.is("RIPE", x.barrel(0, 2), 100);
            due.is("it is", x.ripeIn(0), 0);
        }
    }

    private static void ripeInOfOthers() {
        due.about("NONE: it isn't sound, a gap; -2");
        Twins rich = new Twins(due, Twins::rich);
        int[] none = {-1, 5, 12, LEAST, GREATEST};
        for (int p : none) {
            rich.still("ripeIn(" + p + ")", -2, x -> x.ripeIn(p));
        }
        int[] want = {6, -1, -1, 0, -1};
        for (int p = 0; p < want.length; p++) {
            int at = p;
            rich.still("ripeIn(" + p + ")", want[p], x -> x.ripeIn(at));
        }
        HeardBarrels full = due.at("barrel 1;".repeat(11) + "barrel 9;");
        due.is("ripeIn(11)", full.ripeIn(11), 6);
        due.is("ripeIn(12)", full.ripeIn(12), -2);
        due.is("a bad one, RIPE 100", due.at("barrel 1 ripe 100 bad;").ripeIn(0), -1);
        due.is("stones, RIPE 100", due.at("barrel 1 ripe 100 stones;").ripeIn(0), -1);
    }

    private static void ripe(String text, int d, int... want) {
        HeardBarrels x = due.at(text);
        for (int what = 0; what < 3; what++) {
            due.is("ripeBy(" + d + ", " + what + ") of " + text, x.ripeBy(d, what), want[what]);
        }
    }

    private static void ripeByADay() {
        due.about("RIPE BY a DAY in d (1 to 60); whatever goes bad by that");
        ripe("barrel 1 ripe 39;", 60, 1, 1, 1);
        ripe("barrel 1 ripe 40;", 60, 1, 0, 1);
        ripe("barrel 1 ripe 41;", 60, 1, 0, 1);
        ripe("barrel 1 ripe 40;", 59, 1, 1, 1);
        ripe("barrel 1;", 60, 1, 40, 1);
        ripe("barrel 1 ripe 99;", 1, 1, 0, 1);
        ripe("barrel 1 ripe 98;", 1, 1, 1, 1);
        ripe("barrel 1 ripe 97;", 1, 0, 0, 0);
        ripe("barrel 9 ripe 91;", 1, 1, 0, 1);
        ripe("barrel 9 ripe 90;", 1, 1, 1, 1);
        ripe("barrel 9 ripe 82;", 1, 1, 1, 1);
        ripe("barrel 9 ripe 81;", 1, 0, 0, 0);
        ripe("barrel 2 idle 9;left 1;", 50, 1, 0, 1);
        ripe("barrel 2 idle 9;barrel 1 bad;left 1;", 49, 1, 1, 1);
        ripe("barrel 9 ripe 100 bad;barrel 9 ripe 100 stones;gap;", 60, 0, 0, 0);
    }

    private static void ripeByTurns() {
        due.about("which sound barrels can be RIPE 100 behind d DAYS");
        // 30 turns in 30 DAYS can be, 31 can't
        ripe("barrel 1 ripe 40;", 30, 1, 30, 1);
        ripe("barrel 1 ripe 39;", 30, 0, 0, 0);
        ripe("barrel 1 ripe 39;", 31, 1, 30, 1);
        ripe("barrel 1;", 50, 1, 50, 1);
        ripe("barrel 1;", 49, 0, 0, 0);
        ripe("barrel 9;", 6, 1, 6, 1);
        ripe("barrel 9;", 5, 0, 0, 0);
        ripe("barrel 9;", 12, 1, 0, 1);
        ripe("barrel 9;", 11, 1, 1, 1);
        ripe("barrel 1 ripe 100;gap;barrel 1 ripe 100;", 1, 2, 0, 5);
        ripe("barrel 1 ripe 100;".repeat(12), 1, 12, 0, 4095);
    }

    private static void ripeByHands() {
        due.about("if each DAY at most hands are turned");
        ripe("barrel 1 ripe 97;".repeat(2) + "hands 1;", 2, 2, 2, 3);
        ripe("barrel 1 ripe 97;".repeat(3) + "hands 1;", 2, 2, 2, 3);
        ripe("barrel 1 ripe 97;".repeat(3) + "hands 2;", 2, 3, 3, 7);
        ripe("barrel 1 ripe 97;".repeat(4) + "hands 2;", 2, 4, 4, 15);
        ripe("barrel 1 ripe 97;".repeat(5) + "hands 2;", 2, 4, 4, 15);
        // all hands on all days are used, each barrel is turned on each day it needs
        ripe("barrel 1 ripe 96;".repeat(2) + "hands 2;", 2, 2, 4, 3);
        ripe("barrel 1 ripe 96;".repeat(3) + "hands 2;", 2, 2, 4, 3);
        // two turns each, three barrels, two hands on three days
        ripe("barrel 1 ripe 95;".repeat(3) + "hands 2;", 3, 3, 6, 7);
        ripe("barrel 1 ripe 95;".repeat(3) + "hands 1;", 3, 1, 2, 1);
        ripe("barrel 1;".repeat(12) + "hands 12;", 50, 12, 600, 4095);
        ripe("barrel 1;".repeat(12) + "hands 11;", 50, 11, 550, 2047);
        ripe("barrel 1;".repeat(12) + "hands 12;", 60, 12, 480, 4095);
        ripe("barrel 1;".repeat(12) + "hands 8;", 60, 12, 480, 4095);
        ripe("barrel 1;".repeat(12) + "hands 7;", 60, 10, 400, 1023);
    }

    private static void ripeByTheFewestTurns() {
        due.about("the most, of like ones those that need the fewest turns together, of these the least as bits");
        // one of two: that which needs 1 turn, though its bits are greater
        ripe("barrel 1 ripe 96;barrel 1 ripe 97;hands 1;", 2, 1, 1, 2);
        ripe("barrel 1 ripe 97;barrel 1 ripe 96;hands 1;", 2, 1, 1, 1);
        // of three that need 1, 2, 2 two: the first of like ones
        ripe("barrel 1 ripe 96;barrel 1 ripe 96;barrel 1 ripe 97;hands 2;", 2, 2, 3, 5);
        ripe("barrel 1 ripe 97;gap;barrel 1 ripe 97;barrel 1 ripe 97;hands 1;", 2, 2, 2, 5);
        // two that need 1 each are more than one that needs 2
        ripe("barrel 1 ripe 96;barrel 1 ripe 97;barrel 1 ripe 97;hands 1;", 2, 2, 2, 6);
        // what needs none is always there
        ripe("barrel 1 ripe 97;barrel 1 ripe 97;barrel 1 ripe 98;barrel 2 ripe 96;hands 1;", 2, 4, 2, 15);
    }

    private static void ripeByRefuses() {
        due.about("-2: what; -3: d");
        Twins rich = new Twins(due, Twins::rich);
        int[] wrong = {-1, 3, 10, LEAST, GREATEST};
        int[] days = {0, 61, -1, LEAST, GREATEST};
        for (int what : wrong) {
            rich.still("ripeBy(1, " + what + ")", -2, x -> x.ripeBy(1, what));
            rich.still("ripeBy(61, " + what + ")", -2, x -> x.ripeBy(61, what));
        }
        for (int d : days) {
            for (int what = 0; what < 3; what++) {
                int w = what;
                rich.still("ripeBy(" + d + ", " + what + ")", -3, x -> x.ripeBy(d, w));
            }
        }
        int[] want = {2, 4, 9};
        for (int what = 0; what < 3; what++) {
            int w = what;
            // PLACE 0 (SALT 5) is at 40 and 8 times 5 more, and needs 4 turns; PLACE 3 is RIPE
            rich.still("ripeBy(8, " + what + ")", want[what], x -> x.ripeBy(8, w));
        }
    }

    private static void met(HeardBarrels x, int sort, long[] row, int... want) {
        Due.row(x, 0, sort, row);
        due.is("MET of " + java.util.Arrays.toString(row), x.orders(0, 0), want[0]);
        for (int k = 0; k < 10; k++) {
            due.is("order " + k + " of " + java.util.Arrays.toString(row), x.orders(0, 10 + k),
                    k + 1 < want.length ? want[k + 1] : -1);
        }
    }

    private static void ordersInTime() {
        due.about("by so many DAYS from now each wants one sound barrel that is RIPE IN these, each its own");
        // RIPE IN 2, bad, a gap, stones, 0
        HeardBarrels x = due.at("barrel 5 ripe 80;barrel 5 ripe 100 bad;gap;barrel 5 ripe 100 stones;"
                + "barrel 5 ripe 100;");
        met(x, 0, new long[0], 0);
        met(x, 0, new long[] {0}, 1, 4);
        met(x, 0, new long[] {1}, 1, 4);
        met(x, 0, new long[] {2}, 1, 0);
        met(x, 0, new long[] {0, 0}, 1, 4, -1);
        met(x, 0, new long[] {0, 1}, 1, 4, -1);
        met(x, 0, new long[] {0, 2}, 2, 4, 0);
        met(x, 0, new long[] {2, 0}, 2, 0, 4);
        met(x, 0, new long[] {2, 2}, 2, 0, 4);
        met(x, 0, new long[] {2, 2, 2}, 2, 0, 4, -1);
        met(x, 0, new long[] {127, 127}, 2, 0, 4);
        met(x, 3, new long[] {Long.MAX_VALUE, 1L << 32}, 2, 0, 4);
        HeardBarrels slow = due.at("barrel 1;");
        met(slow, 1, new long[] {49}, 0, -1);
        met(slow, 1, new long[] {50}, 1, 0);
        met(slow, 1, new long[] {51}, 1, 0);
    }

    private static void tenOrders() {
        due.about("ORDERS in a ROW (at most 10); -4: more than 10");
        HeardBarrels full = due.at("barrel 1 ripe 100;".repeat(12));
        met(full, 0, new long[9], 9, 0, 1, 2, 3, 4, 5, 6, 7, 8);
        met(full, 0, new long[10], 10, 0, 1, 2, 3, 4, 5, 6, 7, 8, 9);
        int[] many = {11, 12, 40};
        for (int n : many) {
            Twins twins = new Twins(due, x -> {
                Due.house(x, "barrel 1 ripe 100;".repeat(12));
                x.numbers(0, 1, n);
            });
            twins.still("orders(0, 0) of " + n, -4, x -> x.orders(0, 0));
            twins.still("orders(0, 10) of " + n, -4, x -> x.orders(0, 10));
            twins.still("orders(0, 19) of " + n, -4, x -> x.orders(0, 19));
        }
        // two barrels for ten, the last that is due soonest
        HeardBarrels two = due.at("barrel 9 ripe 82;barrel 9 ripe 100;");
        met(two, 0, new long[] {1, 1, 1, 1, 1, 1, 1, 1, 1, 0}, 2, 0, 1, -1, -1, -1, -1, -1, -1, -1, -1);
    }

    private static void ordersBelowZero() {
        due.about("-3: a number below 0");
        HeardBarrels x = due.at("barrel 1 ripe 100;".repeat(12));
        for (int i = 0; i < 10; i++) {
            x.numbers(0, 2, 10);
            x.write(0, i, -1);
            due.is("-1 at " + i, x.orders(0, 0), -3);
            due.is("-1 at " + i, x.orders(0, 19), -3);
            x.write(0, i, 0);
            due.is("0 at " + i, x.orders(0, 0), 10);
        }
        for (int sort = 0; sort < 4; sort++) {
            x.numbers(0, sort, 1);
            x.write(0, 0, Long.MIN_VALUE >> 64 - (8 << sort));
            due.is("the least of sort " + sort, x.orders(0, 0), -3);
            x.write(0, 0, Long.MAX_VALUE >> 64 - (8 << sort));
            due.is("the greatest of sort " + sort, x.orders(0, 0), 1);
        }
        Due.row(x, 0, 0, 128);
        due.is("128 of 8 bits is -128", x.orders(0, 0), -3);
        Due.row(x, 0, 0, 255);
        due.is("255 of 8 bits is -1", x.orders(0, 10), -3);
        Twins twins = new Twins(due, y -> {
            Twins.rich(y);
            y.write(2, 1, -1);
        });
        twins.still("orders(2, 0)", -3, y -> y.orders(2, 0));
        twins.still("orders(2, 10)", -3, y -> y.orders(2, 10));
        twins.still("orders(2, 13), no such ORDER", -3, y -> y.orders(2, 13));
    }

    private static void ordersTheFirstWay() {
        due.about("the first way: by ORDERS, each the least PLACE (none: behind all) with which still so many are MET");
        // RIPE IN 2, 0, 1
        HeardBarrels x = due.at("barrel 5 ripe 80;barrel 5 ripe 100;barrel 5 ripe 90;");
        met(x, 0, new long[] {2, 2, 2}, 3, 0, 1, 2);
        met(x, 0, new long[] {2, 2, 0}, 3, 0, 2, 1);
        met(x, 0, new long[] {2, 1, 0}, 3, 0, 2, 1);
        met(x, 0, new long[] {1, 1, 2}, 3, 1, 2, 0);
        met(x, 0, new long[] {1, 0, 2}, 3, 2, 1, 0);
        met(x, 0, new long[] {0, 0, 0}, 1, 1, -1, -1);
        met(x, 0, new long[] {1, 0, 0}, 2, 2, 1, -1);
        met(x, 0, new long[] {0, 0, 1, 1}, 2, 1, -1, 2, -1);
        met(x, 0, new long[] {0, 1, 2, 2}, 3, 1, 2, 0, -1);
        met(x, 0, new long[] {2, 2, 2, 0}, 3, 0, 1, 2, -1);
        // PLACE 11 is the last that is tried
        HeardBarrels last = due.at("barrel 1;".repeat(11) + "barrel 9 ripe 100;");
        met(last, 0, new long[] {0, 0}, 1, 11, -1);
        met(last, 0, new long[] {50, 0}, 2, 0, 11);
    }

    private static void ordersRefuseInTheirOrder() {
        due.about("-2: the ROW, what (10 to 19); -6; -4: more than 10; -3: a number below 0");
        Twins rich = new Twins(due, x -> {
            Twins.rich(x);
            x.numbers(1, 0, 11);
            x.write(1, 0, -1);
            x.write(2, 2, -1);
        });
        int[] none = {-1, 4, LEAST, GREATEST};
        for (int row : none) {
            rich.still("orders(" + row + ", 0)", -2, x -> x.orders(row, 0));
            rich.still("orders(" + row + ", 1)", -2, x -> x.orders(row, 1));
        }
        int[] wrong = {-1, 1, 9, 20, LEAST, GREATEST};
        for (int what : wrong) {
            for (int row = 0; row < 4; row++) {
                int r = row;
                rich.still("orders(" + r + ", " + what + ")", -2, x -> x.orders(r, what));
            }
        }
        int[] good = {0, 10, 19};
        for (int what : good) {
            rich.still("orders(3, " + what + ")", -6, x -> x.orders(3, what));
            rich.still("orders(1, " + what + ")", -4, x -> x.orders(1, what));
            rich.still("orders(2, " + what + ")", -3, x -> x.orders(2, what));
        }
        // 1, 8, 9, 3: PLACE 0 is RIPE IN 6, PLACE 3 now
        int[] want = {3, 0, -1, -1, -1};
        rich.still("orders(0, 0)", 2, x -> x.orders(0, 0));
        for (int k = 0; k < want.length; k++) {
            int what = 10 + k;
            rich.still("orders(0, " + what + ")", want[k], x -> x.orders(0, what));
        }
        rich.still("orders(0, 19), no such ORDER", -1, x -> x.orders(0, 19));
    }

    private static void laid(String text, int difference, int... want) {
        HeardBarrels x = due.at(text);
        due.is("apart(0) of " + text, x.apart(0), difference);
        for (int p = 0; p < want.length; p++) {
            due.is("apart(" + (10 + p) + ") of " + text, x.apart(10 + p), want[p]);
        }
        due.is("apart, one more", x.apart(10 + want.length), -2);
    }

    private static void apartAtItsEnds() {
        due.about("NONE, and all are alike: none are beside one another");
        laid("", -1);
        laid("gap;", -1, -1);
        laid("barrel 1;", -1, 0);
        laid("barrel 1;gap;barrel 9;", -1, 0, -1, 2);
        laid("gap;barrel 9;gap;barrel 1;gap;barrel 5;", -1, -1, 1, -1, 3, -1, 5);
        laid("barrel 1;gap;gap;gap;gap;gap;gap;gap;gap;gap;gap;barrel 9;", -1, 0, -1, -1, -1, -1, -1, -1, -1, -1, -1,
                -1, 11);
        // alike TONES are a difference of 0
        laid("barrel 1;barrel 1;", 0, 0, 1);
        laid("barrel 1;barrel 1;barrel 9;", 8, 0, 2, 1);
        laid("barrel 1;barrel 2;", 1, 0, 1);
        laid("barrel 2;barrel 1;", 1, 0, 1);
        laid("barrel 9;barrel 1 stones;", 109, 0, 1);
        laid("barrel 9;barrel 9 bad;low 40;", 40, 0, 1);
        // 121, 122, 129
        laid("barrel 1;barrel 2;barrel 9;", 7, 0, 2, 1);
        // 121, 125, 129: the first of three that are like
        laid("barrel 1;barrel 5;barrel 9;", 4, 0, 1, 2);
    }

    private static void apartWithGaps() {
        due.about("of all ways to lay the barrels of all PLACES (gaps stay), of like ones the first");
        laid("barrel 1;barrel 2;gap;barrel 9;", 8, 0, 3, -1, 1);
        laid("barrel 1;gap;barrel 2;barrel 9;", 8, 2, -1, 0, 3);
        laid("barrel 1;barrel 1;gap;barrel 9;barrel 9;", 8, 0, 3, -1, 1, 4);
        Twins rich = new Twins(due, Twins::rich);
        // 105, 61, a gap, 77, 20
        int[] want = {0, 1, -1, 3, 4};
        rich.still("apart(0)", 44, x -> x.apart(0));
        for (int p = 0; p < want.length; p++) {
            int what = 10 + p;
            rich.still("apart(" + what + ")", want[p], x -> x.apart(what));
        }
        rich.still("apart(15)", -2, x -> x.apart(15));
    }

    private static void apartOfEight() {
        due.about("at most 8 barrels; -4: more than 8 barrels");
        laid("barrel 1;".repeat(7), 0, 0, 1, 2, 3, 4, 5, 6);
        // 121 to 128: four lower ones and four higher ones in turn, at least 4 apart
        laid("barrel 1;barrel 2;barrel 3;barrel 4;barrel 5;barrel 6;barrel 7;barrel 8;", 4, 3, 7, 2, 6, 1, 5, 0, 4);
        laid("gap;barrel 1;barrel 1;barrel 1;barrel 1;gap;barrel 9;barrel 9;barrel 9;gap;barrel 9;gap;", 8, -1, 1, 6,
                2, 7, -1, 3, 8, 4, -1, 10, -1);
        String[] many = {"barrel 1;".repeat(9), "barrel 1;".repeat(12), "barrel 1 stones;".repeat(9),
            "barrel 1 bad;gap;" + "barrel 1;".repeat(8)};
        for (String text : many) {
            Twins twins = new Twins(due, x -> Due.house(x, text));
            twins.still("apart(0) of " + text, -4, x -> x.apart(0));
            twins.still("apart(10) of " + text, -4, x -> x.apart(10));
            twins.still("apart(18) of " + text, -4, x -> x.apart(18));
        }
        HeardBarrels x = due.at("barrel 1 ripe 100;".repeat(9));
        due.is("nine", x.apart(0), -4);
        x.sell(8);
        due.is("one is sold", x.apart(0), 0);
        x.put(8, 1);
        due.is("one is put", x.apart(0), -4);
    }

    private static void apartRefusesInItsOrder() {
        due.about("-2: what (10 to 9 and PLACES); -4: more than 8 barrels");
        HeardBarrels nine = due.at("barrel 1;".repeat(9));
        int[] wrong = {-1, 1, 9, 19, 20, LEAST, GREATEST};
        for (int what : wrong) {
            due.is("apart(" + what + ") of nine", nine.apart(what), -2);
        }
        due.is("apart(18) of nine", nine.apart(18), -4);
        HeardBarrels full = due.at("gap;".repeat(12));
        due.is("apart(21)", full.apart(21), -1);
        due.is("apart(22)", full.apart(22), -2);
        Twins rich = new Twins(due, Twins::rich);
        for (int what : wrong) {
            rich.still("apart(" + what + ")", -2, x -> x.apart(what));
        }
    }
}

/** Edges of "Terms" on DAYS, WEEKS, LEAKS, MISSED and of promises 9 to 15, each sentence for itself. */
public final class EdgeDaysTest {
    private static final Due due = new Due();
    private static final int LEAST = Integer.MIN_VALUE;
    private static final int GREATEST = Integer.MAX_VALUE;

    public static void main(String[] args) {
        idleAboveLeftIsBad();
        idleIs99AtMost();
        ripeIs100AtMost();
        soundOnesRipen();
        besideDiffersByOne();
        asTheDayBegins();
        twoMoreInAll();
        noMoreThanHands();
        placesThatHaveBarrels();
        dayIs9999AtMost();
        refusalsOfDayInTheirOrder();
        howManyWentBad();
        judgeRefuses();
        firstPlaceThatCantBe();
        setsOf64Bits();
        oneNumberAndItsFirstReason();
        judgedAtTheLastDay();
        judgedAsIfDone();
        turnsTogether();
        performedAsFarAsTheyCan();
        performRefuses();
        weeksHaveDays();
        weekAboveTheLastDay();
        draws();
        drawsWhileHandsAreLeft();
        leftAloneForDays();
        missedDays();
        missedInTheirOrder();
        missedAtTheLastDay();
        leakIsNineAtMost();
        leakGoesOn();
        leakRefuses();
        fiveHundredAndTwelveCalls();
        due.end();
    }

    private static void idleAboveLeftIsBad() {
        due.about("Then each sound one whose IDLE is above left is bad");
        for (int left = 1; left <= 6; left++) {
            for (int idle = 0; idle <= 9; idle++) {
                for (int more = 1; more <= 2; more++) {
                    String text = "barrel 1 idle " + idle + ";barrel 1 " + (more == 2 ? "bad" : "stones")
                            + ";left " + left + ";";
                    boolean spoils = idle + more > left;
                    HeardBarrels x = due.at(text);
                    due.is("day(0) of " + text, x.day(0), spoils ? 1 : 0);
                    due.is("kind by " + text, x.barrel(0, 0), spoils ? 1 : 0);
                    due.is("IDLE by " + text, x.barrel(0, 3), idle + more);
                    HeardBarrels y = due.at(text);
                    due.is("day(1) of " + text, y.day(1), 0);
                    due.is("kind of a turned one", y.barrel(0, 0), 0);
                    due.is("IDLE of a turned one", y.barrel(0, 3), 0);
                }
            }
        }
    }

    private static void idleIs99AtMost() {
        due.about("of others 1 more (99 at most)");
        HeardBarrels x = due.at("barrel 1 idle 9 stones;gap;barrel 1 idle 9 bad;barrel 1 idle 8 bad;");
        x.numbers(0, 0, 40);
        due.is("perform", x.perform(0), 40);
        due.is("perform", x.perform(0), 40);
        int[] want = {89, 90, 91, 92, 93, 94, 95, 96, 97, 98, 99, 99, 99};
        for (int i = 0; i < want.length; i++) {
            due.is("IDLE of stones", x.barrel(0, 3), want[i]);
            due.is("IDLE of a gap", x.barrel(1, 3), 0);
            due.is("IDLE of a bad one", x.barrel(2, 3), want[i]);
            due.is("IDLE of another", x.barrel(3, 3), Math.min(99, 88 + i));
            x.day(0);
        }
        x.day(1 | 4);
        due.is("turned stones", x.barrel(0, 3), 0);
        due.is("a turned bad one", x.barrel(2, 3), 0);
    }

    private static void ripeIs100AtMost() {
        due.about("RIPE of sound ones is SALT more, of turned ones twice SALT (100 at most)");
        int[] ripes = {0, 1, 81, 82, 83, 90, 91, 92, 97, 98, 99, 100};
        int[] salts = {1, 2, 9};
        for (int ripe : ripes) {
            for (int salt : salts) {
                HeardBarrels x = due.at("barrel " + salt + " ripe " + ripe + ";gap;barrel " + salt + " ripe " + ripe
                        + ";");
                x.day(1);
                due.is("turned, RIPE " + ripe + " SALT " + salt, x.barrel(0, 2), Math.min(100, ripe + 2 * salt));
                due.is("not turned, RIPE " + ripe + " SALT " + salt, x.barrel(2, 2), Math.min(100, ripe + salt));
            }
        }
    }

    private static void soundOnesRipen() {
        due.about("RIPE of sound ones");
        HeardBarrels x = due.at("barrel 5 ripe 20 bad;gap;barrel 5 ripe 20 stones;gap;barrel 5 ripe 20 idle 1;"
                + "left 1;");
        due.is("day", x.day(1 | 4), 1);
        due.is("a bad one, turned", x.barrel(0, 2), 20);
        due.is("stones, turned", x.barrel(2, 2), 20);
        due.is("one that goes bad on this DAY was sound", x.barrel(4, 2), 25);
        due.is("day", x.day(0), 0);
        due.is("a bad one", x.barrel(0, 2), 20);
        due.is("stones", x.barrel(2, 2), 20);
        due.is("it is bad now", x.barrel(4, 2), 25);
    }

    private static void idles(HeardBarrels x, int... want) {
        for (int p = 0; p < want.length; p++) {
            due.is("IDLE of " + p, x.barrel(p, 3), want[p]);
        }
    }

    private static void besideDiffersByOne() {
        due.about("Beside are PLACES that differ by 1");
        HeardBarrels first = due.at("barrel 1 bad;" + "barrel 1;".repeat(11) + "left 6;");
        first.day(0);
        idles(first, 1, 2, 1, 1, 1, 1, 1, 1, 1, 1, 1, 1);
        HeardBarrels last = due.at("barrel 1;".repeat(11) + "barrel 1 bad;left 6;");
        last.day(0);
        idles(last, 1, 1, 1, 1, 1, 1, 1, 1, 1, 1, 2, 1);
        HeardBarrels middle = due.at("barrel 1;barrel 1;barrel 1 bad;barrel 1;barrel 1;left 6;");
        middle.day(0);
        idles(middle, 1, 2, 1, 2, 1);
        HeardBarrels gaps = due.at("barrel 1;gap;barrel 1 bad;gap;barrel 1;left 6;");
        gaps.day(0);
        idles(gaps, 1, 0, 1, 0, 1);
    }

    private static void asTheDayBegins() {
        due.about("sound ones beside a bad one (as the DAY begins)");
        HeardBarrels x = due.at("barrel 1;barrel 1 idle 3;barrel 1;barrel 1;left 3;");
        due.is("day", x.day(0), 1);
        idles(x, 1, 4, 1, 1);
        due.is("day", x.day(0), 0);
        idles(x, 3, 5, 3, 2);
        due.is("day", x.day(0), 2);
        idles(x, 5, 6, 5, 3);
        due.is("day", x.day(8), 0);
        due.is("bad ones", x.count(3), 7);
        idles(x, 6, 7, 6, 0);
    }

    private static void twoMoreInAll() {
        due.about("of sound ones beside a bad one 2 more in all");
        HeardBarrels x = due.at("barrel 1 bad;barrel 1;barrel 1 bad;barrel 1 bad;barrel 1 stones;barrel 1 bad;left 6;");
        x.day(0);
        idles(x, 1, 2, 1, 1, 1, 1);
        x.day(2);
        idles(x, 2, 0, 2, 2, 2, 2);
    }

    private static void noMoreThanHands() {
        due.about("no more than hands; -4: more than hands");
        int[] hands = {1, 2, 11, 12};
        for (int h : hands) {
            String text = "barrel 1;".repeat(12) + "hands " + h + ";";
            int most = (1 << h) - 1;
            int[] sets = {most, most << 12 - h, most >> 1, 0};
            for (int set : sets) {
                HeardBarrels x = due.at(text);
                due.is("day(" + set + ") by hands " + h, x.day(set), 0);
                due.is("DAY", x.count(4), 1);
                due.is("RIPE of all", x.count(12), 12 + Integer.bitCount(set));
            }
            if (h < 12) {
                Twins twins = new Twins(due, x -> Due.house(x, text));
                twins.still("day by hands " + h, -4, x -> x.day(most << 1 | 1));
                twins.still("day by hands " + h, -4, x -> x.day(4095));
                twins.still("day by hands " + h, -4, x -> x.day((most << 1 | 1) << 11 - h));
            }
        }
    }

    private static void placesThatHaveBarrels() {
        due.about("-3: a set with others than PLACES that have barrels");
        Twins twins = new Twins(due, x -> Due.house(x, "barrel 1;gap;barrel 1 bad;barrel 1 stones;gap;"));
        int[] sets = {2, 16, 18, 32, 1 << 12, 1 << 30, LEAST, GREATEST, -1, 3, 31, 33, LEAST | 1};
        for (int set : sets) {
            twins.still("day(" + set + ")", -3, x -> x.day(set));
        }
        for (int set = 0; set < 16; set++) {
            HeardBarrels x = due.at("barrel 1;gap;barrel 1 bad;barrel 1 stones;gap;");
            due.is("day(" + set + ")", x.day(set), (set & 2) != 0 ? -3 : 0);
            due.is("DAY", x.count(4), (set & 2) != 0 ? 0 : 1);
        }
        HeardBarrels full = due.at("barrel 1;".repeat(12));
        due.is("PLACE 11", full.day(1 << 11), 0);
        due.is("all", full.day(4095), 0);
        due.is("PLACE 12", full.day(1 << 12), -3);
    }

    private static void dayIs9999AtMost() {
        due.about("DAY is 0 at first, 9999 at most; -5: DAY is 9999");
        HeardBarrels x = new HeardBarrels();
        Twins.late(x, 2);
        due.is("DAY", x.count(4), 9997);
        due.is("day", x.day(5), 0);
        due.is("DAY", x.count(4), 9998);
        due.is("day", x.day(5), 0);
        due.is("DAY", x.count(4), 9999);
        due.is("day", x.day(5), -5);
        due.is("DAY", x.count(4), 9999);
        Twins last = new Twins(due, y -> Twins.late(y, 0));
        last.still("day(0)", -5, y -> y.day(0));
        last.still("day(5)", -5, y -> y.day(5));
    }

    private static void refusalsOfDayInTheirOrder() {
        due.about("-3: a set; -4: more than hands; -5: DAY is 9999, that which the call tells first");
        Twins last = new Twins(due, x -> Twins.late(x, 0));
        last.still("more than hands", -4, x -> x.day(13));
        last.still("a gap", -3, x -> x.day(2));
        last.still("a gap and more than hands", -3, x -> x.day(15));
        last.still("no PLACE and more than hands", -3, x -> x.day(-1));
        Twins rich = new Twins(due, Twins::rich);
        rich.still("more than hands", -4, x -> x.day(11));
        rich.still("a gap and more than hands", -3, x -> x.day(15));
    }

    private static void howManyWentBad() {
        due.about("how many went bad");
        HeardBarrels all = due.at("barrel 1 idle 6;".repeat(12) + "left 6;");
        due.is("day, none left out", all.day(4095), 0);
        Due.house(all, "barrel 1 idle 6;".repeat(12) + "left 6;");
        due.is("day, all left out", all.day(0), 12);
        due.is("day, all are bad", all.day(0), 0);
        HeardBarrels one = due.at("barrel 1 idle 6;".repeat(12) + "left 6;");
        due.is("day, one left out", one.day(4094), 1);
        due.is("bad ones", one.count(3), 1);
        HeardBarrels old = due.at("barrel 1 idle 9 bad;gap;barrel 1 idle 9 stones;");
        due.is("day, bad and stones already", old.day(0), 0);
    }

    private static void judgeRefuses() {
        due.about("-2: the ROW, what; -6");
        Twins rich = new Twins(due, Twins::rich);
        int[] none = {-1, 4, LEAST, GREATEST};
        for (int i : none) {
            rich.still("judge(" + i + ", 0)", -2, x -> x.judge(i, 0));
            rich.still("judge(0, " + i + ")", -2, x -> x.judge(0, i));
            rich.still("judge(3, " + i + ")", -2, x -> x.judge(3, i));
            rich.still("judge of both " + i, -2, x -> x.judge(i, i));
        }
        for (int what = 0; what < 4; what++) {
            int w = what;
            rich.still("judge(3, " + what + ")", -6, x -> x.judge(3, w));
        }
    }

    private static void judged(HeardBarrels x, int... want) {
        for (int what = 0; what < 4; what++) {
            due.is("judge(0, " + what + ")", x.judge(0, what), want[what]);
        }
    }

    private static void firstPlaceThatCantBe() {
        due.about("the first place that can't be (NONE), 1: why (0)");
        HeardBarrels x = due.at("barrel 1;gap;barrel 1 bad;hands 1;left 6;");
        x.numbers(0, 2, 0);
        judged(x, -1, 0, 4, 0);
        due.is("perform", x.perform(0), 0);
        Due.row(x, 0, 2, 1);
        judged(x, -1, 0, 4, 1);
        Due.row(x, 0, 2, 2);
        judged(x, 0, 1, 4, 0);
        for (int bad = 0; bad < 40; bad += 39) {
            x.numbers(0, 2, 40);
            for (int i = 0; i < 40; i++) {
                x.write(0, i, i == bad ? 5 : 1);
            }
            judged(x, bad, 2, 4, bad);
        }
        x.numbers(0, 2, 40);
        judged(x, -1, 0, 5, 0);
    }

    private static void setsOf64Bits() {
        due.about("DAYS in a ROW: sets of PLACES (bits). 1 a set with others than PLACES that have barrels");
        HeardBarrels x = due.at("barrel 1;".repeat(12) + "left 6;");
        long[] wrong = {1L << 12, 1L << 31, 1L << 32, 1L << 32 | 1, 1L << 63, -1L, Long.MAX_VALUE, 4096 + 4095};
        for (long set : wrong) {
            Due.row(x, 0, 3, 4095, set);
            judged(x, 1, 1, 0, 12);
        }
        Due.row(x, 0, 3, 4095, 1L << 11);
        judged(x, -1, 0, 0, 13);
        // 128 is -128, if it is cut to 8 bits
        Due.row(x, 0, 0, 127, 128);
        judged(x, 1, 1, 0, 7);
        due.is("perform", x.perform(0), 1);
        HeardBarrels y = due.at("barrel 1;gap;barrel 1;");
        Due.row(y, 0, 1, 5, 7);
        judged(y, 1, 1, 0, 2);
    }

    private static void oneNumberAndItsFirstReason() {
        due.about("Of one number that which is told first");
        HeardBarrels x = new HeardBarrels();
        Twins.late(x, 1);
        // the gap and PLACES that aren't there, more than hands, the last DAY
        long[] sets = {15, 16, 13, 5, 0, -1};
        int[] today = {1, 1, 2, 0, 0, 1};
        int[] tomorrow = {1, 1, 2, 3, 3, 1};
        for (int i = 0; i < sets.length; i++) {
            Due.row(x, 0, 2, sets[i]);
            due.is("why " + sets[i], x.judge(0, 1), today[i]);
            Due.row(x, 0, 2, 5, sets[i]);
            due.is("why 5, " + sets[i], x.judge(0, 1), tomorrow[i]);
            due.is("where", x.judge(0, 0), 1);
        }
    }

    private static void judgedAtTheLastDay() {
        due.about("3 DAY is 9999");
        int[] first = {0, 1, -1, -1};
        int[] why = {3, 3, 0, 0};
        int[] turns = {0, 2, 2, 2};
        int[] done = {0, 1, 2, 2};
        for (int ahead = 0; ahead < 4; ahead++) {
            HeardBarrels x = new HeardBarrels();
            Twins.late(x, ahead);
            judged(x, first[ahead], why[ahead], 0, turns[ahead]);
            due.is("perform, " + ahead + " ahead", x.perform(0), done[ahead]);
            due.is("DAY", x.count(4), 9999 - ahead + done[ahead]);
        }
    }

    private static void judgedAsIfDone() {
        due.about("judged as if done, 2: bad ones then (PLACES, bits)");
        Twins rich = new Twins(due, Twins::rich);
        // PLACE 0 (IDLE 0) beside a bad one: turned; 2; turned; PLACE 3 (IDLE 3): 4, it is bad
        rich.still("judge(0, 0)", -1, x -> x.judge(0, 0));
        rich.still("judge(0, 1)", 0, x -> x.judge(0, 1));
        rich.still("judge(0, 2)", 2 + 8, x -> x.judge(0, 2));
        rich.still("judge(0, 3)", 6, x -> x.judge(0, 3));
        HeardBarrels x = new HeardBarrels();
        Twins.rich(x);
        due.is("perform", x.perform(0), 4);
        due.is("as it was judged", x.count(3), 10);
        HeardBarrels none = due.at("barrel 1;barrel 1 bad;");
        none.numbers(0, 0, 0);
        due.is("bad ones now", none.judge(0, 2), 2);
    }

    private static void turnsTogether() {
        due.about("3: turns of these DAYS together");
        HeardBarrels x = due.at("barrel 1;".repeat(12));
        x.numbers(0, 1, 40);
        for (int i = 0; i < 40; i++) {
            x.write(0, i, 4095);
        }
        judged(x, -1, 0, 0, 480);
        x.write(0, 39, 4096);
        judged(x, 39, 1, 0, 468);
        x.write(0, 0, 0);
        judged(x, 39, 1, 0, 456);
    }

    private static void performedAsFarAsTheyCan() {
        due.about("They are done as far as they can: how many");
        for (int can = 0; can <= 3; can++) {
            HeardBarrels x = due.at("barrel 1;gap;barrel 1;hands 1;left 2;");
            Due.row(x, 2, 2, 1, 4, 1);
            if (can < 3) {
                x.write(2, can, can == 1 ? 2 : 5);
            }
            due.is("perform", x.perform(2), can);
            due.is("DAY", x.count(4), can);
            int[] ripe = {0, 3, 6, 9};
            due.is("RIPE of all", x.count(12), ripe[can]);
        }
        HeardBarrels x = due.at("barrel 1;");
        x.numbers(3, 0, 40);
        due.is("perform", x.perform(3), 40);
        due.is("DAY", x.count(4), 40);
    }

    private static void performRefuses() {
        due.about("perform: -2; -6");
        Twins rich = new Twins(due, Twins::rich);
        rich.still("perform(-1)", -2, x -> x.perform(-1));
        rich.still("perform(4)", -2, x -> x.perform(4));
        rich.still("perform, the least", -2, x -> x.perform(LEAST));
        rich.still("perform, the greatest", -2, x -> x.perform(GREATEST));
        rich.still("perform(3)", -6, x -> x.perform(3));
        // not refused, but none can be done
        rich.still("perform(1)", 0, x -> x.perform(1));
        new Twins(due, x -> Twins.late(x, 0)).still("perform(0)", 0, x -> x.perform(0));
    }

    private static void weeksHaveDays() {
        due.about("so many DAYS (1 to 30); -3: how many DAYS");
        Twins rich = new Twins(due, Twins::rich);
        int[] wrong = {0, 31, -1, LEAST, GREATEST};
        for (int days : wrong) {
            rich.still("week(1, " + days + ")", -3, x -> x.week(1, days));
        }
        int[] good = {1, 2, 29, 30};
        for (int days : good) {
            HeardBarrels x = due.at("barrel 1 stones;");
            due.is("week(1, " + days + ")", x.week(1, days), 0);
            due.is("DAY", x.count(4), days);
        }
    }

    private static void weekAboveTheLastDay() {
        due.about("-5: DAY would be above 9999");
        int[] days = {1, 2, 29, 30};
        for (int d : days) {
            HeardBarrels x = new HeardBarrels();
            Twins.late(x, d + 1);
            due.is("one day is left then", Math.min(0, x.week(3, d)), 0);
            due.is("DAY", x.count(4), 9998);
            HeardBarrels y = new HeardBarrels();
            Twins.late(y, d);
            due.is("just to it", Math.min(0, y.week(3, d)), 0);
            due.is("DAY", y.count(4), 9999);
            new Twins(due, z -> Twins.late(z, d - 1)).still("a day too many", -5, z -> z.week(3, d));
        }
        Twins last = new Twins(due, x -> Twins.late(x, 0));
        last.still("how many DAYS is told first", -3, x -> x.week(3, 0));
        last.still("how many DAYS is told first", -3, x -> x.week(3, 31));
        last.still("week(3, 30)", -5, x -> x.week(3, 30));
    }

    private static void turned(HeardBarrels x, int set) {
        for (int p = 0; p < x.count(0); p++) {
            if (x.barrel(p, 0) != 3) {
                due.is("whether " + p + " is turned", x.barrel(p, 3) == 0 ? 1 : 0, set >> p & 1);
            }
        }
    }

    private static void draws() {
        due.about("a DRAW: x becomes 1103515245 x + 12345, it is x >>> 16; DRAW modulo 2: 1 it is turned");
        // the draws of 1 are 16838, 38526, 10113, 50283, 63819, 38395, 55778, 40187, 48980, 4086, 2749, 12767,
        // then 9084, 44828, 32225, 50311, 57857, 53951, 57905, 58334, 59734, 37746, 20495, 10311
        int[] seeds = {1, 0, -1, GREATEST, LEAST};
        int[] first = {0b110010111100, 0b010011101000, 0b110010010011, 0b110010010011, 0b010011101000};
        int[] second = {0b110001111100, 0b111010101101, 0b000111010101, 0b000111010101, 0b111010101101};
        for (int i = 0; i < seeds.length; i++) {
            HeardBarrels x = due.at("barrel 1 stones;".repeat(12));
            due.is("week(" + seeds[i] + ", 1)", x.week(seeds[i], 1), 0);
            turned(x, first[i]);
            HeardBarrels y = due.at("barrel 1 stones;".repeat(12));
            due.is("week(" + seeds[i] + ", 2)", y.week(seeds[i], 2), 0);
            turned(y, second[i]);
        }
        // a gap draws nothing: what is bad and stones do
        HeardBarrels gaps = due.at("gap;barrel 1 bad;gap;barrel 1 stones;barrel 1;gap;barrel 1;");
        gaps.week(1, 1);
        turned(gaps, 0b1010000);
    }

    private static void drawsWhileHandsAreLeft() {
        due.about("PLACE by PLACE that has a barrel, as long as hands are left");
        // one hand: draws 0, 0, 1 / 1 / 1 / 1 / 0, 1 / 0, 0, 1 / 1
        int[] sets = {4, 1, 1, 1, 2, 4, 1};
        HeardBarrels y = due.at("barrel 3;barrel 4;barrel 5;hands 1;left 6;");
        int bad = 0;
        for (int days = 1; days <= sets.length; days++) {
            HeardBarrels x = due.at("barrel 3;barrel 4;barrel 5;hands 1;left 6;");
            bad += y.day(sets[days - 1]);
            due.is("week(1, " + days + ")", x.week(1, days), bad);
            due.same("as by days", Due.state(x), Due.state(y));
        }
        HeardBarrels two = due.at("barrel 1 stones;".repeat(12) + "hands 2;");
        two.week(1, 1);
        turned(two, 0b1100);
        two.week(1, 2);
        // behind the 4th draw the day has no hand left: 63819, 38395 are the next ones
        turned(two, 0b11);
    }

    private static void leftAloneForDays() {
        due.about("PLACES whose barrels are bad behind n DAYS (0 to 30) on which none is turned");
        Twins rich = new Twins(due, Twins::rich);
        int[] wrong = {-1, 31, LEAST, GREATEST};
        for (int n : wrong) {
            rich.still("leftAlone(" + n + ")", -3, x -> x.leftAlone(n));
        }
        // PLACE 3 has IDLE 3, PLACE 0 has IDLE 0 beside a bad one
        int[] want = {2, 10, 11, 11};
        for (int n = 0; n < want.length; n++) {
            int days = n;
            rich.still("leftAlone(" + n + ")", want[n], x -> x.leftAlone(days));
        }
        rich.still("leftAlone(30)", 11, x -> x.leftAlone(30));
        for (int left = 1; left <= 6; left++) {
            HeardBarrels x = due.at("barrel 1;left " + left + ";");
            due.is("as long as it may be", x.leftAlone(left), 0);
            due.is("one day more", x.leftAlone(left + 1), 1);
        }
        // PLACE 2 goes bad on the 2nd DAY; 3 waits 1, 2, then 4, 6; PLACE 0 and 4 go bad on the 5th
        HeardBarrels row = due.at("barrel 1;barrel 1 stones;barrel 1 idle 3;barrel 1;barrel 1;left 4;");
        int[] chain = {0, 0, 4, 4, 12, 29, 29};
        for (int n = 0; n < chain.length; n++) {
            due.is("leftAlone(" + n + ") of a row", row.leftAlone(n), chain[n]);
        }
        Twins last = new Twins(due, x -> Twins.late(x, 0));
        last.still("leftAlone(0)", 0, x -> x.leftAlone(0));
        last.still("leftAlone(3)", 0, x -> x.leftAlone(3));
        last.still("leftAlone(4)", 5, x -> x.leftAlone(4));
    }

    private static HeardBarrels manyDays(String text, int days) {
        HeardBarrels x = due.at(text);
        x.numbers(0, 1, days);
        return x;
    }

    private static void missedDays() {
        due.about("MISSED by DAYS in a ROW (at most 12) and a set: DAYS of it (bits by places)");
        due.is("no DAYS", manyDays("barrel 1 stones;", 0).missed(0, 0), 0);
        due.is("1 DAY", manyDays("barrel 1 stones;", 1).missed(0, 0), 1);
        due.is("11 DAYS", manyDays("barrel 1 stones;", 11).missed(0, 0), 2047);
        due.is("12 DAYS", manyDays("barrel 1 stones;", 12).missed(0, 0), 4095);
        due.is("13 DAYS", manyDays("barrel 1 stones;", 13).missed(0, 0), -4);
        due.is("40 DAYS", manyDays("barrel 1 stones;", 40).missed(0, 0), -4);
        due.is("a set that never is", manyDays("barrel 1 stones;", 12).missed(0, 1), 0);
        // left 6: without the turn on 4, or on 11, it waits a 7th day
        HeardBarrels x = manyDays("barrel 1;gap;left 6;", 12);
        x.write(0, 4, 1);
        x.write(0, 11, 1);
        due.is("it is sound", x.judge(0, 2), 0);
        due.is("missed(0, 1)", x.missed(0, 1), 1 << 4 | 1 << 11);
        due.is("missed(0, 0)", x.missed(0, 0), 4095 ^ (1 << 4 | 1 << 11));
        due.is("missed, with a gap", x.missed(0, 3), 0);
        due.is("missed, a gap", x.missed(0, 2), 0);
        due.is("missed, no PLACE", x.missed(0, 4), -3);
        HeardBarrels full = manyDays("barrel 1 bad;".repeat(12), 2);
        due.is("missed, all", full.missed(0, 4095), 3);
        due.is("missed, not all", full.missed(0, 4094), 0);
        due.is("missed, PLACE 12", full.missed(0, 4096), -3);
        due.is("missed, bit 31", full.missed(0, LEAST | 4095), -3);
        due.is("missed, -1", full.missed(0, -1), -3);
    }

    private static void missedInTheirOrder() {
        due.about("-2: the ROW; -6; -4: more than 12; -5: DAYS that can't be; -3: a set with others than PLACES");
        Twins rich = new Twins(due, x -> {
            Twins.rich(x);
            x.numbers(1, 0, 13);
            x.write(1, 12, 4);
            Due.row(x, 2, 0, 1, 4);
        });
        rich.still("missed(-1, -1)", -2, x -> x.missed(-1, -1));
        rich.still("missed(4, 0)", -2, x -> x.missed(4, 0));
        rich.still("missed, the least", -2, x -> x.missed(LEAST, 0));
        rich.still("missed, the greatest", -2, x -> x.missed(GREATEST, 0));
        rich.still("missed(3, -1)", -6, x -> x.missed(3, -1));
        rich.still("missed(3, 0)", -6, x -> x.missed(3, 0));
        rich.still("13 that can't be, and a set", -4, x -> x.missed(1, 32));
        rich.still("they can't be, and a set", -5, x -> x.missed(2, 32));
        rich.still("they can't be", -5, x -> x.missed(2, 0));
        rich.still("a set", -3, x -> x.missed(0, 32));
        rich.still("a set", -3, x -> x.missed(0, -1));
        // PLACE 3 is bad behind the first in any case; PLACE 0 (2 more a day) is turned on 0, 2 and 3, and
        // goes bad with two days in a row on which it isn't: without 0, without 2
        rich.still("missed(0, 10)", 0b1010, x -> x.missed(0, 10));
        rich.still("missed(0, 11)", 0b0101, x -> x.missed(0, 11));
        rich.still("missed(0, 2)", 0, x -> x.missed(0, 2));
        rich.still("missed(0, 31)", 0, x -> x.missed(0, 31));
    }

    private static void missedAtTheLastDay() {
        due.about("each can be, one behind the other");
        int[] want = {-5, -5, 3, 3};
        for (int ahead = 0; ahead < want.length; ahead++) {
            int a = ahead;
            new Twins(due, x -> Twins.late(x, a)).still("missed, " + a + " ahead", want[a], x -> x.missed(0, 0));
        }
        // too many by one at the second of three, on a DAY that could be
        HeardBarrels x = due.at("barrel 1;barrel 1;hands 1;");
        Due.row(x, 0, 2, 1, 3, 2);
        due.is("missed", x.missed(0, 0), -5);
        Due.row(x, 0, 2, 1, 2, 2);
        due.is("missed", x.missed(0, 0), 7);
    }

    private static void salts(HeardBarrels x, int... want) {
        for (int p = 0; p < want.length; p++) {
            due.is("SALT of " + p, x.barrel(p, 1), want[p]);
        }
    }

    private static void leakIsNineAtMost() {
        due.about("SALT of its barrel is 1 more (9 at most; sound ones alone)");
        HeardBarrels x = due.at("barrel 7;barrel 8;barrel 9;barrel 1 bad;barrel 1 stones;barrel 1;");
        due.is("leak(0, 12)", x.leak(0, 12), 3);
        salts(x, 8, 9, 9, 1, 1, 2);
        due.is("leak(0, 12)", x.leak(0, 12), 2);
        salts(x, 9, 9, 9, 1, 1, 3);
        due.is("leak(0, 12)", x.leak(0, 12), 1);
        salts(x, 9, 9, 9, 1, 1, 4);
        due.is("leak at 9", x.leak(2, 1), 0);
        due.is("leak at a bad one", x.leak(3, 1), 0);
        due.is("leak at stones", x.leak(4, 1), 0);
        salts(x, 9, 9, 9, 1, 1, 4);
    }

    private static void leakGoesOn() {
        due.about("then of the next PLACE's, and so on, n PLACES at most; it ends ahead of a gap");
        int[] from = {0, 0, 0, 1, 10, 11, 11};
        int[] days = {1, 11, 12, 12, 12, 1, 12};
        int[] more = {1, 11, 12, 11, 2, 1, 1};
        for (int i = 0; i < from.length; i++) {
            HeardBarrels x = due.at("barrel 1;".repeat(12));
            due.is("leak(" + from[i] + ", " + days[i] + ")", x.leak(from[i], days[i]), more[i]);
            for (int p = 0; p < 12; p++) {
                boolean salted = p >= from[i] && p < from[i] + more[i];
                due.is("SALT of " + p, x.barrel(p, 1), salted ? 2 : 1);
            }
        }
        HeardBarrels x = due.at("barrel 1;barrel 1 stones;barrel 1 bad;barrel 1;gap;barrel 1;");
        due.is("leak(0, 3)", x.leak(0, 3), 1);
        salts(x, 2, 1, 1, 1, 0, 1);
        due.is("leak(0, 4)", x.leak(0, 4), 2);
        salts(x, 3, 1, 1, 2, 0, 1);
        due.is("leak(0, 5)", x.leak(0, 5), 2);
        due.is("leak(0, 6)", x.leak(0, 6), 2);
        salts(x, 5, 1, 1, 4, 0, 1);
        due.is("leak at a gap", x.leak(4, 2), 0);
        due.is("leak behind it", x.leak(5, 1), 1);
        salts(x, 5, 1, 1, 4, 0, 2);
        due.is("DAY", x.count(4), 0);
    }

    private static void leakRefuses() {
        due.about("-2: the PLACE; -3: n (1 to 12)");
        Twins rich = new Twins(due, Twins::rich);
        int[] none = {-1, 5, 12, LEAST, GREATEST};
        for (int p : none) {
            rich.still("leak(" + p + ", 1)", -2, x -> x.leak(p, 1));
            rich.still("leak(" + p + ", 0)", -2, x -> x.leak(p, 0));
        }
        int[] wrong = {0, 13, -1, LEAST, GREATEST};
        for (int n : wrong) {
            rich.still("leak(0, " + n + ")", -3, x -> x.leak(0, n));
            rich.still("leak(2, " + n + ")", -3, x -> x.leak(2, n));
        }
        rich.still("leak at a gap", 0, x -> x.leak(2, 12));
        rich.still("leak at a bad one, for 1", 0, x -> x.leak(1, 1));
    }

    private static void fiveHundredAndTwelveCalls() {
        due.about("An object is used for at most 512 calls after it has been made");
        HeardBarrels x = new HeardBarrels();
        for (int i = 1; i <= 510; i++) {
            due.is("call " + i, x.day(0), 0);
        }
        due.is("call 511", x.count(4), 510);
        due.is("call 512", x.day(1), -3);
    }
}

/** Edges of "Terms" on TONES, KNOCKS, ALIKE, ENOUGH and of promises 16 to 27 and 36, each sentence for itself. */
public final class EdgeKnocksTest {
    private static final Due due = new Due();
    private static final int LEAST = Integer.MIN_VALUE;
    private static final int GREATEST = Integer.MAX_VALUE;
    /** No PLACE, no ROW. */
    private static final int[] NO_ROW = {-1, 4, LEAST, GREATEST};

    public static void main(String[] args) {
        halfItsRipeCut();
        lowLessAndStones();
        tonesAreRefused();
        gapsBeside();
        badOnesBeside();
        cutDownward();
        knocksAreRefused();
        heardIfJustASetIsBad();
        heardIsRefused();
        asManyNumbersAsPlaces();
        rowsOfKnocksAreRefused();
        nobodyKnocked();
        numbersAtAGap();
        numbersOf64Bits();
        howManyFit();
        theLeastFirst();
        sureInAllInNone();
        fewerThanTwoFit();
        noSuchPlaceForNext();
        ofLikeOnesTheLeast();
        nextOfTwelve();
        firstPlaceIsNoneThatCanBeBad();
        waysAtAPlace();
        alikeToASet();
        enoughOfEight();
        enoughIsTheLeast();
        neededOfTen();
        neededByWhatWasHeard();
        copiedPlaces();
        copiedIntoARow();
        copyIsRefused();
        due.end();
    }

    private static void halfItsRipeCut() {
        due.about("120 less half its RIPE (cut) and SALT more");
        int[] ripes = {0, 1, 2, 3, 49, 50, 51, 98, 99, 100};
        int[] less = {0, 0, 1, 1, 24, 25, 25, 49, 49, 50};
        int[] salts = {1, 2, 8, 9};
        for (int i = 0; i < ripes.length; i++) {
            for (int salt : salts) {
                HeardBarrels x = due.at("barrel " + salt + " ripe " + ripes[i] + ";gap;cold 9;");
                due.is("tone, RIPE " + ripes[i] + " SALT " + salt, x.tone(0), 120 - less[i] + salt);
            }
        }
    }

    private static void lowLessAndStones() {
        due.about("of a bad one low less; of stones 20");
        int[] lows = {1, 2, 39, 40};
        for (int low : lows) {
            HeardBarrels x = due.at("barrel 9 bad;barrel 9;barrel 9 ripe 100 stones;barrel 1 ripe 100 bad;low " + low
                    + ";lie 20;");
            due.is("a bad one", x.tone(0), 129 - low);
            due.is("a sound one beside it", x.tone(1), 129);
            due.is("stones", x.tone(2), 20);
            due.is("the lowest bad one", x.tone(3), 71 - low);
        }
        HeardBarrels x = due.at("barrel 5 idle 3;low 30;");
        due.is("sound", x.tone(0), 125);
        x.day(0);
        due.is("gone bad, RIPE 5", x.tone(0), 120 - 2 + 5 - 30);
    }

    private static void tonesAreRefused() {
        due.about("-2: the PLACE; -5: a gap");
        Twins rich = new Twins(due, Twins::rich);
        int[] none = {-1, 5, 12, LEAST, GREATEST};
        for (int p : none) {
            rich.still("tone(" + p + ")", -2, x -> x.tone(p));
        }
        int[] tones = {105, 61, -5, 77, 20};
        for (int p = 0; p < tones.length; p++) {
            int at = p;
            rich.still("tone(" + p + ")", tones[p], x -> x.tone(at));
        }
        HeardBarrels full = due.at("barrel 1;".repeat(11) + "barrel 2;");
        due.is("tone(11)", full.tone(11), 122);
        due.is("tone(12)", full.tone(12), -2);
    }

    private static void knocks(String text, int... want) {
        HeardBarrels x = due.at(text);
        for (int p = 0; p < want.length; p++) {
            due.is("knock(" + p + ") of " + text, x.knock(p), want[p]);
        }
    }

    private static void gapsBeside() {
        due.about("1 more for each gap beside it");
        knocks("barrel 1;", 121);
        knocks("barrel 1;barrel 1;", 121, 121);
        knocks("barrel 1;gap;", 122, -1000);
        knocks("gap;barrel 1;", -1000, 122);
        knocks("gap;barrel 1;gap;", -1000, 123, -1000);
        knocks("gap;gap;barrel 1;gap;gap;", -1000, -1000, 123, -1000, -1000);
        knocks("gap;barrel 1;barrel 1 stones;gap;", -1000, 122, 21, -1000);
        // the first and the last PLACE aren't beside one another
        knocks("barrel 1;" + "barrel 1 stones;".repeat(10) + "gap;", 121, 20);
        knocks("gap;" + "barrel 1 stones;".repeat(10) + "barrel 1;", -1000, 21, 20, 20, 20, 20, 20, 20, 20, 20, 20,
                121);
        HeardBarrels x = due.at("barrel 1 ripe 100;barrel 1;barrel 1 ripe 100;");
        due.is("ahead of sales", x.knock(1), 121);
        x.sell(0);
        due.is("a gap by a sale", x.knock(1), 122);
        x.sell(2);
        due.is("two", x.knock(1), 123);
        x.put(0, 1);
        due.is("a gap less", x.knock(1), 122);
    }

    private static void badOnesBeside() {
        due.about("less lie for each bad one beside it");
        int[] lies = {0, 1, 19, 20};
        for (int lie : lies) {
            String set = "lie " + lie + ";low 3;";
            knocks("barrel 1;barrel 1;barrel 1;" + set, 121, 121, 121);
            knocks("barrel 1 bad;barrel 1;barrel 1;" + set, 118, 121 - lie, 121);
            knocks("barrel 1 bad;barrel 1;barrel 1 bad;" + set, 118, 121 - 2 * lie, 118);
            knocks("barrel 1 bad;barrel 1 bad;barrel 1 bad;" + set, 118 - lie, 118 - 2 * lie, 118 - lie);
            knocks("barrel 1 bad;gap;barrel 1;" + set, 119, -1000, 122);
            knocks("barrel 1 bad;barrel 1;gap;" + set, 118, 122 - lie, -1000);
            knocks("barrel 1 bad;barrel 1 stones;barrel 1 bad;" + set, 118, 20 - 2 * lie, 118);
            knocks("barrel 1 bad;barrel 1;barrel 1;barrel 1;" + set, 118, 121 - lie, 121, 121);
        }
    }

    private static void cutDownward() {
        due.about("all that by cold and 1, cut downward");
        int[] of121 = {121, 60, 40, 30, 24, 20, 17, 15, 13, 12};
        int[] of120 = {120, 60, 40, 30, 24, 20, 17, 15, 13, 12};
        int[] of119 = {119, 59, 39, 29, 23, 19, 17, 14, 13, 11};
        int[] under = {-20, -10, -7, -5, -4, -4, -3, -3, -3, -2};
        int[] by1 = {1, 0, 0, 0, 0, 0, 0, 0, 0, 0};
        int[] by2 = {-2, -1, -1, -1, -1, -1, -1, -1, -1, -1};
        int[] by9 = {-9, -5, -3, -3, -2, -2, -2, -2, -1, -1};
        for (int cold = 0; cold <= 9; cold++) {
            String set = "cold " + cold + ";";
            knocks("barrel 1;" + set, of121[cold]);
            knocks("barrel 1 ripe 2;" + set, of120[cold]);
            knocks("barrel 1 ripe 4;" + set, of119[cold]);
            String bad = "barrel 1 ripe 100 bad;";
            due.is("-20 by cold " + cold, due.at(bad + "barrel 1 stones;" + bad + "lie 20;" + set).knock(1),
                    under[cold]);
            due.is("0 by cold " + cold, due.at(bad + "barrel 1 stones;" + bad + "lie 10;" + set).knock(1), 0);
            due.is("-2 by cold " + cold, due.at(bad + "barrel 1 stones;" + bad + "lie 11;" + set).knock(1), by2[cold]);
            due.is("1 by cold " + cold, due.at(bad + "barrel 1 stones;gap;lie 20;" + set).knock(1), by1[cold]);
            due.is("-9 by cold " + cold, due.at(bad + bad + bad + "lie 20;low 40;" + set).knock(1), by9[cold]);
        }
    }

    private static void knocksAreRefused() {
        due.about("What is HEARD at a PLACE, as all are. -1000: no such PLACE, a gap");
        Twins rich = new Twins(due, Twins::rich);
        int[] none = {-1, 5, 12, LEAST, GREATEST, 2};
        for (int p : none) {
            rich.still("knock(" + p + ")", -1000, x -> x.knock(p));
        }
        int[] want = {51, 31, -1000, 39, 10};
        for (int p = 0; p < want.length; p++) {
            int at = p;
            rich.still("knock(" + p + ")", want[p], x -> x.knock(at));
        }
        HeardBarrels full = due.at("barrel 1;".repeat(11) + "barrel 2;");
        due.is("knock(11)", full.knock(11), 122);
        due.is("knock(12)", full.knock(12), -1000);
    }

    private static void heardIfJustASetIsBad() {
        due.about("if a set of barrels is bad (others aren't, but stones are stones)");
        HeardBarrels x = due.at("barrel 1 bad;barrel 2;barrel 3 stones;barrel 4 bad;");
        int[] sets = {0, 1, 2, 3, 8, 9, 10, 11};
        int[][] want = {{121, 106, 117, 102, 121, 106, 117, 102}, {122, 118, 107, 103, 122, 118, 107, 103},
            {20, 20, 16, 16, 16, 16, 12, 12}, {124, 124, 124, 124, 109, 109, 109, 109}};
        for (int p = 0; p < 4; p++) {
            for (int i = 0; i < sets.length; i++) {
                due.is("heard(" + p + ", " + sets[i] + ")", x.heard(p, sets[i]), want[p][i]);
            }
            due.is("as all are", x.heard(p, 9), x.knock(p));
        }
        HeardBarrels full = due.at("barrel 1;".repeat(12));
        due.is("heard(11, 4095)", full.heard(11, 4095), 102);
        due.is("heard(0, 4095)", full.heard(0, 4095), 102);
        due.is("heard(5, 4095)", full.heard(5, 4095), 98);
        due.is("the ends aren't beside one another", full.heard(0, 2048), 121);
        due.is("the ends aren't beside one another", full.heard(11, 1), 121);
    }

    private static void heardIsRefused() {
        due.about("-1000: no such PLACE, a gap, a set with others than PLACES that have barrels which aren't stones");
        Twins rich = new Twins(due, Twins::rich);
        int[] none = {-1, 5, 12, LEAST, GREATEST, 2};
        for (int p : none) {
            rich.still("heard(" + p + ", 0)", -1000, x -> x.heard(p, 0));
            rich.still("heard(" + p + ", 4)", -1000, x -> x.heard(p, 4));
        }
        int[] sets = {4, 16, 20, 32, 5, 31, 4096, LEAST, GREATEST, -1, LEAST | 1};
        for (int set : sets) {
            rich.still("heard(0, " + set + ")", -1000, x -> x.heard(0, set));
        }
        rich.still("heard(0, 11)", 43, x -> x.heard(0, 11));
        HeardBarrels full = due.at("barrel 1;".repeat(12));
        due.is("heard(0, 4096)", full.heard(0, 4096), -1000);
        due.is("heard(12, 0)", full.heard(12, 0), -1000);
    }

    private static void asManyNumbersAsPlaces() {
        due.about("-7: it has not as many numbers as there are PLACES");
        int[] sizes = {0, 4, 6, 40};
        for (int n : sizes) {
            Twins rich = new Twins(due, x -> {
                Twins.rich(x);
                x.numbers(1, 2, n);
            });
            askAll(rich, 1, -7);
        }
        Twins five = new Twins(due, x -> {
            Twins.rich(x);
            x.numbers(1, 2, 5);
        });
        // none is heard as 0
        five.still("fit", 0, x -> x.fit(1));
        HeardBarrels full = due.at("barrel 1;".repeat(12));
        int[] fits = {-7, 0, -7};
        for (int n = 11; n <= 13; n++) {
            full.numbers(0, 0, n);
            due.is("fit of " + n, full.fit(0), fits[n - 11]);
        }
    }

    private static void askAll(Twins twins, int row, int code) {
        String of = "(" + row + ")";
        twins.still("fit" + of, code, x -> x.fit(row));
        twins.still("fitting" + of, code, x -> x.fitting(row, 0));
        twins.still("fitting below" + of, code, x -> x.fitting(row, -1));
        twins.still("sure" + of, code, x -> x.sure(row, true));
        twins.still("sure not" + of, code, x -> x.sure(row, false));
        twins.still("next" + of, code, x -> x.next(row));
        twins.still("worst" + of, code, x -> x.worst(row));
        twins.still("needed" + of, code, x -> x.needed(row));
    }

    private static void rowsOfKnocksAreRefused() {
        due.about("-2: the ROW; -6; -7");
        Twins rich = new Twins(due, Twins::rich);
        for (int row : NO_ROW) {
            askAll(rich, row, -2);
        }
        askAll(rich, 3, -6);
        askAll(rich, 0, -7);
        askAll(rich, 2, -7);
    }

    private static int fit(HeardBarrels x, int sort, long... row) {
        Due.row(x, 0, sort, row);
        return x.fit(0);
    }

    private static void nobodyKnocked() {
        due.about("999: nobody knocked there");
        HeardBarrels x = due.at("barrel 1;barrel 1 stones;");
        due.is("999", fit(x, 2, 999, 999), 2);
        due.is("998", fit(x, 2, 998, 999), 0);
        due.is("1000", fit(x, 2, 1000, 999), 0);
        due.is("-999", fit(x, 2, -999, 999), 0);
        due.is("-1000", fit(x, 2, -1000, 999), 0);
        due.is("999 and what stones let be heard", fit(x, 2, 999, 20), 1);
        due.is("one less", fit(x, 2, 999, 19), 0);
        due.is("one more", fit(x, 2, 999, 21), 0);
        due.is("with a bad one beside", fit(x, 2, 999, 16), 1);
        due.is("what is heard", fit(x, 2, 121, 999), 1);
        due.is("one less", fit(x, 2, 120, 999), 0);
        due.is("one more", fit(x, 2, 122, 999), 0);
        due.is("both", fit(x, 2, 121, 20), 1);
        due.is("both, and they don't go together", fit(x, 2, 121, 16), 0);
    }

    private static void numbersAtAGap() {
        due.about("A number but 999 at a gap: none FIT");
        HeardBarrels x = due.at("barrel 1;gap;");
        long[] others = {998, 1000, 0, -1, 1, -1000, 122, Long.MIN_VALUE, Long.MAX_VALUE, 999 + (1L << 32)};
        due.is("999", fit(x, 3, 999, 999), 2);
        for (long number : others) {
            due.is("a gap heard as " + number, fit(x, 3, 999, number), 0);
            due.is("fitting", x.fitting(0, 0), -1);
            due.is("sure", x.sure(0, true), 0);
            due.is("sure not", x.sure(0, false), 0);
            due.is("next", x.next(0), -1);
            due.is("worst", x.worst(0), -1);
            due.is("needed", x.needed(0), -1);
        }
        HeardBarrels gap = due.at("gap;");
        due.is("nothing but a gap", fit(gap, 2, 999), 1);
        due.is("next", gap.next(0), -1);
        due.is("needed", gap.needed(0), 0);
        due.is("a number at it", fit(gap, 2, 0), 0);
    }

    private static void numbersOf64Bits() {
        due.about("what was HEARD now at each");
        HeardBarrels x = due.at("barrel 1;");
        due.is("121", fit(x, 3, 121), 1);
        due.is("121 and 2 to the 32", fit(x, 3, 121 + (1L << 32)), 0);
        due.is("999 and 2 to the 32", fit(x, 3, 999 + (1L << 32)), 0);
        due.is("121 less 2 to the 63", fit(x, 3, 121 + Long.MIN_VALUE), 0);
        due.is("next", x.next(0), -1);
        // cut to 32, 16, 8 bits it is 121 itself
        due.is("cut to 32 bits", fit(x, 2, 121 + (1L << 32)), 1);
        due.is("cut to 16 bits", fit(x, 1, 121 + (1L << 16)), 1);
        due.is("cut to 8 bits", fit(x, 0, 121 + (1L << 8)), 1);
        due.is("999 of 16 bits", fit(x, 1, 999), 2);
        due.is("999 of 8 bits is -25", fit(x, 0, 999), 0);
        HeardBarrels high = due.at("barrel 9;");
        due.is("129 of 16 bits", fit(high, 1, 129), 1);
        due.is("129 of 8 bits is -127", fit(high, 0, 129), 0);
        HeardBarrels under = due.at("barrel 1 stones;barrel 1 bad;lie 20;cold 9;barrel 1 stones;barrel 1;");
        due.is("0 of 8 bits", under.knock(0), 0);
        due.is("what is below 0", fit(under, 0, 0, under.heard(1, 10), -2, under.heard(3, 10)), 1);
    }

    private static void howManyFit() {
        due.about("How many sets FIT KNOCKS in a ROW");
        Twins rich = new Twins(due, Twins::rich);
        rich.still("fit(1)", 2, x -> x.fit(1));
        HeardBarrels full = due.at("barrel 1;".repeat(12));
        full.numbers(0, 2, 12);
        due.is("all 0", full.fit(0), 0);
        full.copy(0, 0);
        due.is("no knock", full.fit(0), 4096);
        full.write(0, 11, 121);
        due.is("one knock", full.fit(0), 1024);
        full.copy(4095, 0);
        due.is("all knocked", full.fit(0), 1);
        HeardBarrels bad = due.at("barrel 1 bad;".repeat(11) + "barrel 1 stones;");
        bad.numbers(0, 2, 12);
        bad.copy(0, 0);
        due.is("no knock, whatever they are", bad.fit(0), 2048);
        bad.copy(4095, 0);
        due.is("all knocked", bad.fitting(0, 0), 2047);
        HeardBarrels stones = due.at("barrel 1 stones;".repeat(12));
        stones.numbers(0, 2, 12);
        stones.copy(4095, 0);
        due.is("nothing but stones", stones.fit(0), 1);
        due.is("the set of none", stones.fitting(0, 0), 0);
    }

    private static void theLeastFirst() {
        due.about("The k-th set that FITS, the least first. NONE: not so many");
        Twins rich = new Twins(due, Twins::rich);
        int[] ks = {-1, 0, 1, 2, 3, LEAST, GREATEST};
        int[] want = {-1, 2, 10, -1, -1, -1, -1};
        for (int i = 0; i < ks.length; i++) {
            int k = ks[i];
            rich.still("fitting(1, " + k + ")", want[i], x -> x.fitting(1, k));
        }
        HeardBarrels full = due.at("barrel 1;".repeat(12));
        full.numbers(0, 2, 12);
        full.copy(0, 0);
        int[] all = {0, 1, 2, 2047, 2048, 4094, 4095};
        for (int k : all) {
            due.is("fitting(0, " + k + ")", full.fitting(0, k), k);
        }
        due.is("fitting(0, 4096)", full.fitting(0, 4096), -1);
        HeardBarrels some = due.at("gap;barrel 1;barrel 1 stones;barrel 1 bad;");
        some.numbers(0, 2, 4);
        some.copy(0, 0);
        int[] sets = {0, 2, 8, 10, -1};
        for (int k = 0; k < sets.length; k++) {
            due.is("fitting(0, " + k + ")", some.fitting(0, k), sets[k]);
        }
    }

    private static void sureInAllInNone() {
        due.about("PLACES that are bad in all sets that FIT, in none (of barrels that aren't stones), 0, if none FIT");
        Twins rich = new Twins(due, Twins::rich);
        rich.still("sure(1, true)", 2, x -> x.sure(1, true));
        rich.still("sure(1, false)", 1, x -> x.sure(1, false));
        HeardBarrels x = due.at("barrel 1 bad;barrel 1 stones;gap;barrel 1;barrel 1;");
        x.numbers(0, 2, 5);
        x.copy(0, 0);
        due.is("all FIT: sure", x.sure(0, true), 0);
        due.is("all FIT: sure not", x.sure(0, false), 0);
        x.copy(31, 0);
        due.is("one FITS: sure", x.sure(0, true), 1);
        due.is("one FITS: sure not", x.sure(0, false), 24);
        x.write(0, 0, 0);
        due.is("none FIT: sure", x.sure(0, true), 0);
        due.is("none FIT: sure not", x.sure(0, false), 0);
        HeardBarrels full = due.at("barrel 1 bad;".repeat(12));
        full.numbers(0, 2, 12);
        full.copy(4095, 0);
        due.is("all twelve", full.sure(0, true), 4095);
        due.is("none of them", full.sure(0, false), 0);
        HeardBarrels none = due.at("gap;barrel 1 stones;");
        none.numbers(0, 2, 2);
        none.copy(3, 0);
        due.is("no barrels but stones: sure", none.sure(0, true), 0);
        due.is("no barrels but stones: sure not", none.sure(0, false), 0);
    }

    private static void next(HeardBarrels x, int fit, int place, int left) {
        due.is("fit", x.fit(0), fit);
        due.is("next", x.next(0), place);
        due.is("worst", x.worst(0), left);
    }

    private static void fewerThanTwoFit() {
        due.about("NONE: fewer than 2 FIT");
        Twins rich = new Twins(due, Twins::rich);
        rich.still("next(1)", 3, x -> x.next(1));
        rich.still("worst(1)", 1, x -> x.worst(1));
        HeardBarrels x = due.at("barrel 1;gap;barrel 1;");
        Due.row(x, 0, 2, 999, 999, 999);
        next(x, 4, 0, 2);
        x.write(0, 0, 122);
        next(x, 2, 2, 1);
        x.write(0, 2, 107);
        next(x, 1, -1, -1);
        x.write(0, 2, 106);
        next(x, 0, -1, -1);
        // one FITS, though somebody could still knock
        HeardBarrels y = due.at("barrel 1 bad;barrel 1;");
        Due.row(y, 0, 2, 106, 999);
        next(y, 1, -1, -1);
        HeardBarrels stones = due.at("barrel 1 stones;");
        Due.row(stones, 0, 2, 999);
        next(stones, 1, -1, -1);
    }

    private static void noSuchPlaceForNext() {
        due.about("NONE: or no such PLACE (with a barrel, where nobody knocked)");
        HeardBarrels x = due.at("barrel 1;barrel 1;low 3;lie 3;");
        Due.row(x, 0, 2, 118, 118);
        next(x, 2, -1, -1);
        Due.row(x, 0, 2, 999, 118);
        next(x, 2, 0, 2);
        Due.row(x, 0, 2, 118, 999);
        next(x, 2, 1, 2);
        // 999 at a gap is no PLACE to knock
        HeardBarrels gap = due.at("barrel 1;barrel 1;gap;low 3;lie 3;");
        Due.row(gap, 0, 2, 118, 119, 999);
        next(gap, 2, -1, -1);
    }

    private static void ofLikeOnesTheLeast() {
        due.about("the fewest that FIT are left at worst; of like ones the least");
        // alike the first and the last
        HeardBarrels x = due.at("gap;barrel 1;gap;barrel 1;gap;barrel 1;");
        Due.row(x, 0, 2, 999, 999, 999, 999, 999, 999);
        next(x, 8, 1, 4);
        x.write(0, 1, 123);
        next(x, 4, 3, 2);
        x.write(0, 3, 123);
        next(x, 2, 5, 1);
        // 121 and 120 are 12 by cold 9; stones are heard as 2, beside a bad one as 1
        HeardBarrels stones = due.at("barrel 1;barrel 1 stones;low 1;cold 9;");
        Due.row(stones, 0, 2, 999, 999);
        next(stones, 2, 1, 1);
        // in the middle of three all eight are heard by three numbers (low 4 as lie): 1, 3, 3, 1
        HeardBarrels three = due.at("barrel 1;barrel 1;barrel 1;low 4;lie 4;");
        Due.row(three, 0, 2, 999, 999, 999);
        next(three, 8, 1, 3);
        // nobody is told apart by one: all are left
        HeardBarrels deaf = due.at("barrel 1 ripe 2;barrel 1;low 1;lie 0;cold 9;");
        Due.row(deaf, 0, 2, 12, 999);
        next(deaf, 2, 1, 2);
    }

    private static void nextOfTwelve() {
        due.about("by what may be HEARD there");
        HeardBarrels full = due.at("barrel 1;".repeat(12));
        full.numbers(0, 2, 12);
        full.copy(0, 0);
        next(full, 4096, 0, 1024);
        HeardBarrels deaf = due.at("barrel 1;".repeat(12) + "low 1;lie 0;cold 9;");
        deaf.numbers(0, 2, 12);
        deaf.copy(0, 0);
        next(deaf, 4096, 0, 4096);
        HeardBarrels last = due.at("barrel 1;".repeat(11) + "barrel 1 ripe 2;low 1;lie 0;cold 9;");
        last.numbers(0, 2, 12);
        last.copy(0, 0);
        next(last, 4096, 11, 2048);
        // what is heard at the next PLACE is another matter
        HeardBarrels two = due.at("barrel 1;barrel 1;lie 0;");
        Due.row(two, 0, 2, 999, 999);
        next(two, 4, 0, 2);
    }

    private static void firstPlaceIsNoneThatCanBeBad() {
        due.about("sets of barrels that aren't stones");
        String[] firsts = {"gap;", "barrel 1 stones;"};
        for (int i = 0; i < 2; i++) {
            HeardBarrels x = due.at(firsts[i] + "barrel 1;barrel 1 bad;");
            x.numbers(0, 2, 3);
            x.copy(0, 0);
            next(x, 4, 1, 1);
            due.is("the least", x.fitting(0, 0), 0);
            due.is("the last", x.fitting(0, 3), 6);
            due.is("sure", x.sure(0, true), 0);
            due.is("sure not", x.sure(0, false), 0);
            due.is("needed", x.needed(0), 1);
            // PLACE 1 is heard as 121, 117, 106, 102, with a gap beside it 1 more
            int[] heard = {121, 117, 106, 102};
            for (int tone : heard) {
                due.is("ways", x.ways(1, tone + 1 - i), 1);
            }
            due.is("enough", x.enough(), 2);
            due.is("alike", x.alike(0), 1);
            x.copy(7, 0);
            due.is("fit", x.fit(0), 1);
            due.is("fitting", x.fitting(0, 0), 4);
            due.is("sure", x.sure(0, true), 4);
            due.is("sure not", x.sure(0, false), 2);
            due.is("needed", x.needed(0), 0);
            x.copy(0, 0);
            x.write(0, 2, 121);
            due.is("fit", x.fit(0), 1);
            due.is("fitting", x.fitting(0, 0), 0);
            due.is("sure not", x.sure(0, false), 6);
            x.copy(0, 0);
            x.write(0, 1, 122 - i);
            due.is("fit", x.fit(0), 1);
            due.is("sure not", x.sure(0, false), 6);
            due.is("needed", x.needed(0), 0);
        }
        HeardBarrels none = due.at("barrel 1 stones;gap;barrel 1;low 1;cold 9;");
        due.is("enough, it isn't heard", none.enough(), -1);
        due.is("alike", none.alike(0), 2);
        due.is("ways", none.ways(2, 12), 2);
    }

    private static void waysAtAPlace() {
        due.about("How many sets let a number be HEARD at a PLACE. -2: the PLACE, a gap");
        Twins rich = new Twins(due, Twins::rich);
        int[] none = {-1, 5, 12, LEAST, GREATEST, 2};
        for (int p : none) {
            rich.still("ways(" + p + ", 51)", -2, x -> x.ways(p, 51));
        }
        int[] values = {42, 43, 44, 45, 46, 50, 51, 52, 53, 0, 999, -1000, LEAST, GREATEST};
        int[] want = {0, 2, 0, 2, 0, 0, 2, 2, 0, 0, 0, 0, 0, 0};
        for (int i = 0; i < values.length; i++) {
            int v = values[i];
            rich.still("ways(0, " + v + ")", want[i], x -> x.ways(0, v));
        }
        rich.still("ways(4, 10)", 4, x -> x.ways(4, 10));
        rich.still("ways(4, 9)", 0, x -> x.ways(4, 9));
        rich.still("ways(4, 8)", 4, x -> x.ways(4, 8));
        HeardBarrels full = due.at("barrel 1;".repeat(12));
        due.is("ways(0, 121)", full.ways(0, 121), 1024);
        due.is("ways(11, 121)", full.ways(11, 121), 1024);
        due.is("ways(5, 121)", full.ways(5, 121), 512);
        due.is("ways(5, 117)", full.ways(5, 117), 1024);
        due.is("ways(12, 121)", full.ways(12, 121), -2);
        due.is("ways of stones alone", due.at("barrel 1 stones;").ways(0, 20), 1);
        due.is("ways of stones alone", due.at("barrel 1 stones;").ways(0, 21), 0);
    }

    private static void alikeToASet() {
        due.about("ALIKE to a set (that one, too). -3: a set with others than PLACES that have barrels, not stones");
        Twins rich = new Twins(due, Twins::rich);
        int[] sets = {4, 16, 20, 32, 5, 31, 4096, LEAST, GREATEST, -1, LEAST | 1};
        for (int set : sets) {
            rich.still("alike(" + set + ")", -3, x -> x.alike(set));
        }
        int[] good = {0, 1, 2, 3, 8, 9, 10, 11};
        for (int set : good) {
            rich.still("alike(" + set + ")", 1, x -> x.alike(set));
        }
        // 121 and 120 are both 12 by cold 9, 120 and 119 aren't
        due.is("alike(0), 121", due.at("barrel 1;low 1;cold 9;").alike(0), 2);
        due.is("alike(1), 121", due.at("barrel 1;low 1;cold 9;").alike(1), 2);
        due.is("alike(0), 120", due.at("barrel 1 ripe 2;low 1;cold 9;").alike(0), 1);
        due.is("alike(1), 120", due.at("barrel 1 ripe 2;low 1;cold 9;").alike(1), 1);
        due.is("alike of twelve", due.at("barrel 5;".repeat(12) + "low 1;lie 0;cold 9;").alike(4095), 4096);
        due.is("alike of twelve", due.at("barrel 5;".repeat(12)).alike(0), 1);
        due.is("alike(4096)", due.at("barrel 5;".repeat(12)).alike(4096), -3);
        due.is("alike of stones", due.at("barrel 5 stones;gap;").alike(0), 1);
        due.is("alike of stones", due.at("barrel 5 stones;gap;").alike(1), -3);
    }

    private static void enoughOfEight() {
        due.about("-4: more than 8 barrels that aren't stones");
        due.is("seven", due.at("barrel 1;gap;".repeat(5) + "barrel 1;barrel 1;").enough(), 0b10101010101);
        // each of two beside one another tells of both
        due.is("eight", due.at("barrel 1;".repeat(8)).enough(), 0b1010101);
        due.is("eight and four of stones", due.at("barrel 1;".repeat(8) + "barrel 1 stones;".repeat(4)).enough(),
                0b1010101);
        due.is("eight and gaps", due.at("gap;gap;gap;gap;" + "barrel 1 bad;".repeat(8)).enough(), 0b10101010000);
        String[] many = {"barrel 1;".repeat(9), "barrel 1;".repeat(12), "barrel 1;".repeat(8) + "barrel 1 bad;",
            "barrel 1 bad;".repeat(9) + "barrel 1 stones;gap;"};
        for (String text : many) {
            new Twins(due, x -> Due.house(x, text)).still("enough of " + text, -4, x -> x.enough());
        }
        Twins rich = new Twins(due, Twins::rich);
        rich.still("enough", 0b1001, x -> x.enough());
    }

    private static void enoughIsTheLeast() {
        due.about("that with the fewest, of like ones the least as bits. NONE: there is none");
        due.is("no barrels", due.at("gap;gap;").enough(), 0);
        due.is("stones alone", due.at("barrel 1 stones;gap;barrel 1 stones;").enough(), 0);
        due.is("one", due.at("gap;barrel 1;").enough(), 2);
        due.is("one, stones tell, too", due.at("barrel 1 stones;barrel 1;").enough(), 1);
        due.is("one, behind it", due.at("barrel 1;barrel 1 stones;").enough(), 1);
        due.is("one, stones alone tell", due.at("barrel 1;barrel 1 stones;low 1;cold 9;").enough(), 2);
        due.is("one that isn't heard", due.at("barrel 1;low 1;cold 9;").enough(), -1);
        due.is("one that is heard", due.at("barrel 1 ripe 2;low 1;cold 9;").enough(), 1);
        due.is("two apart", due.at("barrel 1;gap;barrel 1;").enough(), 5);
        due.is("two, told by either", due.at("barrel 1;barrel 1;").enough(), 1);
        due.is("two, never told apart", due.at("barrel 1;barrel 1;low 3;lie 3;").enough(), -1);
        due.is("two, both are asked", due.at("barrel 1;barrel 1;lie 0;").enough(), 3);
    }

    private static void neededOfTen() {
        due.about("at most 10 FIT; -4: more than 10 FIT");
        // stones that are heard as 1 by cold 9 have at least one bad one of two beside them
        HeardBarrels nine = due.at("barrel 1;barrel 1 stones;barrel 1;gap;barrel 1;barrel 1 stones;barrel 1;cold 9;");
        Due.row(nine, 0, 2, 999, 1, 999, 999, 999, 1, 999);
        due.is("fit", nine.fit(0), 9);
        due.is("needed of 9", nine.needed(0), 4);
        HeardBarrels ten = due.at("barrel 1;barrel 1 stones;barrel 1;barrel 1 stones;barrel 1;gap;barrel 1;cold 9;");
        Due.row(ten, 0, 2, 999, 1, 999, 1, 999, 999, 999);
        due.is("fit", ten.fit(0), 10);
        due.is("needed of 10", ten.needed(0), 4);
        String text = "barrel 1;barrel 1;barrel 1;barrel 1;low 3;lie 4;cold 9;";
        Twins eleven = new Twins(due, x -> {
            Due.house(x, text);
            Due.row(x, 0, 2, 999, 11, 999, 11);
        });
        eleven.still("fit", 11, x -> x.fit(0));
        eleven.still("needed of 11", -4, x -> x.needed(0));
        HeardBarrels twelve = due.at("barrel 1;barrel 1 stones;barrel 1;gap;barrel 1;gap;barrel 1;cold 9;");
        Due.row(twelve, 0, 2, 999, 1, 999, 999, 999, 999, 999);
        due.is("fit", twelve.fit(0), 12);
        due.is("needed of 12", twelve.needed(0), -4);
        // 10 FIT that aren't told apart, 4096 that FIT
        HeardBarrels blurred = due.at("barrel 1;barrel 1;barrel 1;barrel 1;low 6;lie 3;cold 9;");
        Due.row(blurred, 0, 2, 999, 999, 11, 11);
        due.is("fit", blurred.fit(0), 10);
        due.is("needed of 10 alike", blurred.needed(0), -1);
        HeardBarrels full = due.at("barrel 1;".repeat(12));
        full.numbers(0, 2, 12);
        full.copy(0, 0);
        due.is("needed of 4096", full.needed(0), -4);
    }

    private static void neededByWhatWasHeard() {
        due.about("NONE: none FIT, or knocks can't tell all apart");
        Twins rich = new Twins(due, Twins::rich);
        rich.still("needed(1), 2 FIT", 1, x -> x.needed(1));
        HeardBarrels x = due.at("barrel 1;gap;barrel 1;gap;barrel 1;");
        Due.row(x, 0, 2, 999, 999, 999, 999, 999);
        due.is("8 FIT, one by one", x.needed(0), 3);
        x.write(0, 0, 122);
        due.is("4 FIT", x.needed(0), 2);
        x.write(0, 2, 123);
        due.is("2 FIT", x.needed(0), 1);
        x.write(0, 4, 122);
        due.is("1 FITS", x.needed(0), 0);
        x.write(0, 4, 121);
        due.is("none FIT", x.needed(0), -1);
        HeardBarrels y = due.at("barrel 1;barrel 1;low 3;lie 3;");
        Due.row(y, 0, 2, 999, 999);
        due.is("4 FIT, two are alike", y.needed(0), -1);
        Due.row(y, 0, 2, 118, 118);
        due.is("2 FIT, alike, all are knocked", y.needed(0), -1);
        Due.row(y, 0, 2, 121, 999);
        due.is("1 FITS", y.needed(0), 0);
        // one knock at one of two tells all four
        HeardBarrels z = due.at("barrel 1;barrel 1;");
        Due.row(z, 0, 2, 999, 999);
        due.is("4 FIT, by one knock", z.needed(0), 1);
    }

    private static void copiedPlaces() {
        due.about("KNOCKS at a set of PLACES as all are (999 at others, at gaps)");
        Twins rich = new Twins(due, x -> {
            Twins.rich(x);
            x.numbers(0, 2, 0);
            x.numbers(2, 2, 0);
        });
        int[] sets = {0, 1, 4, 16, 27, 31};
        String[] want = {"999,999,999,999,999", "51,999,999,999,999", "999,999,999,999,999", "999,999,999,999,10",
            "51,31,999,39,10", "51,31,999,39,10"};
        for (int i = 0; i < sets.length; i++) {
            int set = sets[i];
            due.is("copy(" + set + ", 1)", rich.answer(x -> x.copy(set, 1)), 5);
            due.same("the row by " + set, rich.rows(x -> x.copy(set, 1)),
                    "-7 0: | 1800 5:" + want[i] + ", | -7 0: | -6 0: | ");
        }
    }

    private static void copiedIntoARow() {
        due.about("come into a ROW from its first place on: how many PLACES there are");
        int[] sizes = {5, 6, 7, 40};
        for (int n : sizes) {
            Twins long1 = new Twins(due, x -> {
                Twins.rich(x);
                x.numbers(0, 2, 0);
                x.numbers(2, 2, 0);
                x.numbers(1, 2, n);
                x.write(1, n - 1, 77);
            });
            StringBuilder row = new StringBuilder("999,31,999,999,10,");
            for (int i = 5; i < n; i++) {
                row.append(i == n - 1 ? "77," : "0,");
            }
            due.is("copy(18, 1)", long1.answer(x -> x.copy(18, 1)), 5);
            due.same("a row of " + n, long1.rows(x -> x.copy(18, 1)),
                    "-7 0: | " + 0x05060708 + " " + n + ":" + row + " | -7 0: | -6 0: | ");
        }
        // 8 bits: 129 is -127, 999 is -25
        HeardBarrels x = due.at("barrel 9;gap;");
        x.numbers(0, 0, 2);
        due.is("copy", x.copy(3, 0), 2);
        due.is("cut to 8 bits", x.fit(0), 0);
        x.numbers(0, 1, 2);
        x.copy(3, 0);
        due.is("of 16 bits", x.fit(0), 1);
        HeardBarrels none = new HeardBarrels();
        none.numbers(0, 0, 0);
        due.is("no PLACES", none.copy(0, 0), 0);
        HeardBarrels full = due.at("barrel 1;".repeat(12));
        full.numbers(0, 1, 12);
        due.is("twelve", full.copy(4095, 0), 12);
        full.numbers(0, 1, 11);
        due.is("twelve into eleven", full.copy(4095, 0), -7);
    }

    private static void copyIsRefused() {
        due.about("-2: the ROW; -6; -7: it has not so many places (nothing comes); -3: a set with others than PLACES");
        Twins rich = new Twins(due, Twins::rich);
        for (int row : NO_ROW) {
            rich.still("copy(0, " + row + ")", -2, x -> x.copy(0, row));
            rich.still("copy(-1, " + row + ")", -2, x -> x.copy(-1, row));
        }
        rich.still("copy(0, 3)", -6, x -> x.copy(0, 3));
        rich.still("copy(-1, 3)", -6, x -> x.copy(-1, 3));
        rich.still("copy(31, 0), four numbers", -7, x -> x.copy(31, 0));
        rich.still("copy(1, 0), four numbers", -7, x -> x.copy(1, 0));
        rich.still("copy(32, 0), four numbers", -7, x -> x.copy(32, 0));
        rich.still("copy(0, 2), three numbers", -7, x -> x.copy(0, 2));
        int[] sets = {32, 33, 63, 4096, LEAST, GREATEST, -1, LEAST | 31};
        for (int set : sets) {
            rich.still("copy(" + set + ", 1)", -3, x -> x.copy(set, 1));
        }
        HeardBarrels full = due.at("barrel 1;".repeat(12));
        full.numbers(0, 1, 12);
        due.is("copy(4096, 0)", full.copy(4096, 0), -3);
    }
}

/** Edges of promises 1, 5 to 8, 34, 35, 37 to 39: places, rows, images, counts, each sentence for itself. */
public final class EdgeHouseTest {
    private static final Due due = new Due();
    private static final int LEAST = Integer.MIN_VALUE;
    private static final int GREATEST = Integer.MAX_VALUE;
    private static final String FULL = "barrel 1 ripe 100;" + "gap;".repeat(10) + "barrel 9 ripe 100 idle 9;";

    public static void main(String[] args) {
        newObjectHasNoPlaces();
        newObjectHasNoKnocks();
        newObjectHasNothingToKeep();
        placesOfBarrels();
        gapsHaveNothing();
        placesSwap();
        ripeAndSoundIsSold();
        putIntoAGap();
        rowsAndSorts();
        numbersOfARow();
        rowStays();
        rowsAreMissingAtFirst();
        writtenNumbersAreCut();
        writesAreRefused();
        imagesAndNone();
        imageIsAsItWas();
        imagesAreRefused();
        countsOfOthers();
        countsAtTheirEdges();
        due.end();
    }

    private static void newObjectHasNoPlaces() {
        due.about("HeardBarrels(): No PLACES");
        HeardBarrels x = new HeardBarrels();
        due.same("all that is told", Due.state(x), "0 0 0 0 0 12 3 0 0 0 15 4 0 0 -1");
        due.is("barrel", x.barrel(0, 0), -2);
        due.is("swap", x.swap(0, 0), -2);
        due.is("sell", x.sell(0), -2);
        due.is("put", x.put(0, 1), -2);
        due.is("leak", x.leak(0, 1), -2);
        due.is("day(1)", x.day(1), -3);
        due.is("day, bit 31", x.day(LEAST), -3);
        due.is("leftAlone(0)", x.leftAlone(0), 0);
        due.is("leftAlone(30)", x.leftAlone(30), 0);
        due.is("restore", x.restore(0), -5);
        for (int row = 0; row < 4; row++) {
            due.is("judge", x.judge(row, 0), -6);
            due.is("perform", x.perform(row), -6);
            due.is("missed", x.missed(row, 0), -6);
        }
        Due.row(x, 0, 0, 0);
        due.is("judge 0", x.judge(0, 0), -1);
        due.is("judge 2", x.judge(0, 2), 0);
        due.is("missed(0, 0)", x.missed(0, 0), 1);
        due.is("missed(0, 1)", x.missed(0, 1), -3);
        due.is("perform", x.perform(0), 1);
        due.is("day(0)", x.day(0), 0);
        due.is("week", x.week(1, 30), 0);
        due.is("DAY", x.count(4), 32);
        due.is("image", x.image(1), 0);
        due.is("restore", x.restore(1), 0);
        due.is("DAY", x.count(4), 32);
    }

    private static void newObjectHasNoKnocks() {
        due.about("HeardBarrels(): No PLACES");
        HeardBarrels x = new HeardBarrels();
        due.is("tone", x.tone(0), -2);
        due.is("knock", x.knock(0), -1000);
        due.is("heard", x.heard(0, 0), -1000);
        due.is("ways", x.ways(0, 0), -2);
        due.is("alike(0)", x.alike(0), 1);
        due.is("alike(1)", x.alike(1), -3);
        due.is("enough", x.enough(), 0);
        x.numbers(0, 3, 0);
        due.is("copy(0, 0)", x.copy(0, 0), 0);
        due.is("copy(1, 0)", x.copy(1, 0), -3);
        // the set of none FITS, as nothing was heard
        due.is("fit", x.fit(0), 1);
        due.is("fitting(0, 0)", x.fitting(0, 0), 0);
        due.is("fitting(0, 1)", x.fitting(0, 1), -1);
        due.is("sure", x.sure(0, true), 0);
        due.is("sure not", x.sure(0, false), 0);
        due.is("next", x.next(0), -1);
        due.is("worst", x.worst(0), -1);
        due.is("needed", x.needed(0), 0);
        Due.row(x, 1, 1, 999);
        due.is("fit of one number", x.fit(1), -7);
        due.is("copy into one number", x.copy(0, 1), 0);
        due.is("it stays", x.perform(1), 0);
        due.is("why", x.judge(1, 1), 1);
    }

    private static void newObjectHasNothingToKeep() {
        due.about("HeardBarrels(): No PLACES");
        HeardBarrels x = new HeardBarrels();
        due.is("kept(1, 0)", x.kept(1, 0), 0);
        due.is("kept(8, 0)", x.kept(8, 0), 0);
        due.is("kept(8, 17)", x.kept(8, 17), 0);
        due.is("kept(7, 17)", x.kept(7, 17), -1);
        due.is("longest", x.longest(), 30);
        due.is("ripeIn", x.ripeIn(0), -2);
        for (int what = 0; what < 3; what++) {
            due.is("ripeBy(60, " + what + ")", x.ripeBy(60, what), 0);
        }
        Due.row(x, 0, 2, 5);
        due.is("orders, MET", x.orders(0, 0), 0);
        due.is("orders, the first", x.orders(0, 10), -1);
        due.is("apart(0)", x.apart(0), -1);
        due.is("apart(10)", x.apart(10), -2);
        due.is("apart(9)", x.apart(9), -2);
    }

    private static void placesOfBarrels() {
        due.about("Of a PLACE, what 0: .. 3: IDLE; -2");
        String[] texts = {"barrel 4 ripe 3 idle 2;", FULL};
        int[] places = {1, 12};
        for (int i = 0; i < texts.length; i++) {
            String text = texts[i];
            int n = places[i];
            Twins twins = new Twins(due, x -> Due.house(x, text));
            twins.still("barrel(-1, 0)", -2, x -> x.barrel(-1, 0));
            twins.still("barrel(0, 0)", 0, x -> x.barrel(0, 0));
            twins.still("barrel, the last", 0, x -> x.barrel(n - 1, 0));
            twins.still("barrel, one more", -2, x -> x.barrel(n, 0));
            twins.still("barrel(13, 0)", -2, x -> x.barrel(13, 0));
            twins.still("barrel, the least", -2, x -> x.barrel(LEAST, 0));
            twins.still("barrel, the greatest", -2, x -> x.barrel(GREATEST, 0));
            twins.still("barrel, what -1", -2, x -> x.barrel(0, -1));
            twins.still("barrel, what 3", n == 1 ? 2 : 0, x -> x.barrel(0, 3));
            twins.still("barrel, what 4", -2, x -> x.barrel(0, 4));
            twins.still("barrel, the least what", -2, x -> x.barrel(0, LEAST));
            twins.still("barrel, the greatest what", -2, x -> x.barrel(0, GREATEST));
        }
        HeardBarrels x = due.at("barrel 4 ripe 3 idle 2;barrel 1 bad;barrel 9 ripe 100 idle 9 stones;");
        int[][] want = {{0, 4, 3, 2}, {1, 1, 0, 0}, {2, 9, 100, 9}};
        for (int p = 0; p < 3; p++) {
            for (int what = 0; what < 4; what++) {
                due.is("barrel(" + p + ", " + what + ")", x.barrel(p, what), want[p][what]);
            }
        }
    }

    private static void gap(HeardBarrels x, int p) {
        due.is("a gap at " + p, x.barrel(p, 0), 3);
        for (int what = 1; what < 4; what++) {
            due.is("barrel(" + p + ", " + what + ") of a gap", x.barrel(p, what), 0);
        }
    }

    private static void gapsHaveNothing() {
        due.about("3 a gap; 1: SALT, 2: RIPE, 3: IDLE (0 each of a gap)");
        HeardBarrels x = due.at("gap;barrel 9 ripe 100 idle 2;barrel 8 ripe 77 idle 3 bad;left 6;");
        gap(x, 0);
        x.day(0);
        gap(x, 0);
        due.is("sell", x.sell(1), 9);
        gap(x, 1);
        x.week(5, 30);
        gap(x, 1);
        x.swap(1, 2);
        gap(x, 2);
        // what was a barrel's in an earlier house is no gap's
        Due.house(x, "gap;gap;gap;");
        for (int p = 0; p < 3; p++) {
            gap(x, p);
        }
    }

    private static void placesSwap() {
        due.about("Two PLACES change what they have: 0. -2: one of both");
        Twins twins = new Twins(due, Twins::rich);
        int[] none = {-1, 5, 6, 12, 32, LEAST, GREATEST};
        for (int p : none) {
            twins.still("swap(" + p + ", 0)", -2, x -> x.swap(p, 0));
            twins.still("swap(4, " + p + ")", -2, x -> x.swap(4, p));
            twins.still("swap of both " + p, -2, x -> x.swap(p, p));
        }
        for (int p = 0; p < 5; p++) {
            int q = p;
            twins.still("swap with itself", 0, x -> x.swap(q, q));
        }
        HeardBarrels x = due.at("barrel 4 ripe 3 idle 2;gap;barrel 9 ripe 100 idle 9 stones;barrel 5 ripe 6 bad;");
        due.is("the first and the last", x.swap(0, 3), 0);
        due.same("they change", Due.state(x),
                "4 3 1 1 0 12 3 0 0 4 15 4 109 1 5 6 0 3 0 0 0 2 9 100 9 0 4 3 2 0 -1");
        due.is("back", x.swap(3, 0), 0);
        due.is("a gap and stones", x.swap(1, 2), 0);
        due.same("they change", Due.state(x),
                "4 3 1 8 0 12 3 0 0 4 15 4 109 0 4 3 2 2 9 100 9 3 0 0 0 1 5 6 0 0 -1");
        HeardBarrels y = due.at(FULL);
        due.is("swap(0, 11)", y.swap(0, 11), 0);
        due.is("SALT", y.barrel(11, 1), 1);
        due.is("swap(11, 12)", y.swap(11, 12), -2);
    }

    private static void ripeAndSoundIsSold() {
        due.about("A barrel that is RIPE 100 and sound is sold: a gap then; its SALT");
        Twins twins = new Twins(due, x -> Due.house(x, "barrel 5 ripe 99;barrel 6 ripe 100 bad;"
                + "barrel 7 ripe 100 stones;gap;barrel 8 ripe 0;barrel 9 ripe 100;"));
        for (int p = 0; p < 5; p++) {
            int q = p;
            twins.still("sell(" + p + ")", -5, x -> x.sell(q));
        }
        twins.still("sell(-1)", -2, x -> x.sell(-1));
        twins.still("sell(6)", -2, x -> x.sell(6));
        twins.still("sell, the least", -2, x -> x.sell(LEAST));
        twins.still("sell, the greatest", -2, x -> x.sell(GREATEST));
        HeardBarrels x = due.at("barrel 1 ripe 98;barrel 9 ripe 82;barrel 1 ripe 97;");
        due.is("ahead of the day", x.sell(0), -5);
        x.day(7);
        due.is("RIPE 100 by the day", x.sell(0), 1);
        due.is("it is a gap", x.sell(0), -5);
        due.is("RIPE 100 by the day", x.sell(1), 9);
        due.is("RIPE 99", x.sell(2), -5);
        due.is("PLACES", x.count(0), 3);
        due.is("barrels", x.count(1), 1);
        due.is("day, what is sold", x.day(1), -3);
        HeardBarrels y = due.at("barrel 5 ripe 100 idle 3;");
        y.day(0);
        due.is("RIPE 100 and gone bad", y.sell(0), -5);
        HeardBarrels z = due.at(FULL);
        due.is("the last PLACE", z.sell(11), 9);
        due.is("behind it", z.sell(12), -2);
    }

    private static void putIntoAGap() {
        due.about("A sound barrel of a SALT comes into a gap. -2: the PLACE; -5: it is no gap; -3: SALT");
        Twins twins = new Twins(due, x -> Due.house(x, "barrel 5 idle 2;gap;barrel 1 bad;barrel 1 stones;gap;"));
        int[] salts = {0, 10, -1, 11, 265, LEAST, GREATEST};
        for (int salt : salts) {
            twins.still("put(1, " + salt + ")", -3, x -> x.put(1, salt));
            twins.still("put(0, " + salt + ")", -5, x -> x.put(0, salt));
            twins.still("put(5, " + salt + ")", -2, x -> x.put(5, salt));
            twins.still("put(-1, " + salt + ")", -2, x -> x.put(-1, salt));
        }
        twins.still("put(0, 5)", -5, x -> x.put(0, 5));
        twins.still("put to a bad one", -5, x -> x.put(2, 5));
        twins.still("put to stones", -5, x -> x.put(3, 5));
        twins.still("put(5, 5)", -2, x -> x.put(5, 5));
        twins.still("put, the least", -2, x -> x.put(LEAST, 5));
        twins.still("put, the greatest", -2, x -> x.put(GREATEST, 5));
        int[] good = {1, 2, 8, 9};
        for (int salt : good) {
            HeardBarrels x = due.at("barrel 9 ripe 100 idle 1;gap;");
            x.sell(0);
            for (int p = 0; p < 2; p++) {
                due.is("put", x.put(p, salt), 0);
                due.is("it is sound", x.barrel(p, 0), 0);
                due.is("SALT", x.barrel(p, 1), salt);
                due.is("RIPE", x.barrel(p, 2), 0);
                due.is("IDLE", x.barrel(p, 3), 0);
                due.is("put once more", x.put(p, salt), -5);
            }
        }
        HeardBarrels last = due.at("gap;".repeat(12));
        due.is("put(11, 1)", last.put(11, 1), 0);
        due.is("put(12, 1)", last.put(12, 1), -2);
    }

    private static void rowsAndSorts() {
        due.about("-2: no such ROW, sort; -3, and the ROW stays: n is below 0 or above 40");
        Twins twins = new Twins(due, Twins::rich);
        int[] none = {-1, 4, LEAST, GREATEST};
        for (int i : none) {
            twins.still("numbers(" + i + ", 0, 1)", -2, x -> x.numbers(i, 0, 1));
            twins.still("numbers(0, " + i + ", 1)", -2, x -> x.numbers(0, i, 1));
            twins.still("numbers(" + i + ", 0, 41)", -2, x -> x.numbers(i, 0, 41));
            twins.still("numbers(0, " + i + ", -1)", -2, x -> x.numbers(0, i, -1));
        }
        int[] sizes = {-1, 41, LEAST, GREATEST};
        for (int row = 0; row < 4; row++) {
            int r = row;
            for (int n : sizes) {
                twins.still("numbers(" + r + ", 1, " + n + ")", -3, x -> x.numbers(r, 1, n));
            }
        }
    }

    private static void numbersOfARow() {
        due.about("0 to 40 numbers of 8 bits (sort 0), 16 (1), 32 (2), 64 (3)");
        int[] sizes = {0, 1, 39, 40};
        for (int n : sizes) {
            HeardBarrels x = new HeardBarrels();
            for (int row = 0; row < 4; row++) {
                due.is("numbers", x.numbers(row, row, n), 0);
                due.is("below its first", x.write(row, -1, 5), -7);
                due.is("its first", x.write(row, 0, 5), n > 0 ? 5 : -7);
                due.is("its last", x.write(row, n - 1, 6), n > 0 ? 6 : -7);
                due.is("behind its last", x.write(row, n, 7), -7);
            }
        }
    }

    private static void rowStays() {
        due.about("A ROW OF NUMBERS has n numbers of a sort, all 0 (in place of another one)");
        HeardBarrels x = due.at("barrel 1;barrel 1;barrel 1;");
        Due.row(x, 2, 3, 7, 7, 7);
        due.is("turns", x.judge(2, 3), 9);
        due.is("numbers, refused", x.numbers(2, 0, 41), -3);
        due.is("turns", x.judge(2, 3), 9);
        due.is("numbers", x.numbers(2, 3, 3), 0);
        due.is("turns", x.judge(2, 3), 0);
        Due.row(x, 2, 3, 7, 7, 7);
        // a shorter one, then a longer one: what was behind comes not back
        x.numbers(2, 3, 1);
        due.is("turns", x.judge(2, 3), 0);
        due.is("write(2, 1)", x.write(2, 1, 1), -7);
        x.numbers(2, 3, 3);
        due.is("turns", x.judge(2, 3), 0);
        due.is("days", x.perform(2), 3);
        due.is("RIPE of all", x.count(12), 9);
        x.numbers(2, 0, 3);
        due.is("another sort", x.write(2, 0, 300), 44);
    }

    private static void rowsAreMissingAtFirst() {
        due.about("ROWS OF NUMBERS 0 to 3 are MISSING at first");
        for (int row = 0; row < 4; row++) {
            HeardBarrels x = new HeardBarrels();
            for (int other = 0; other < 4; other++) {
                if (other != row) {
                    x.numbers(other, 0, 1);
                }
            }
            due.is("write", x.write(row, 0, 1), -6);
            due.is("numbers(row, 0, 41)", x.numbers(row, 0, 41), -3);
            due.is("it is MISSING yet", x.write(row, 0, 1), -6);
            due.is("numbers(row, 0, 0)", x.numbers(row, 0, 0), 0);
            due.is("it is there and has none", x.write(row, 0, 1), -7);
        }
    }

    private static void writtenNumbersAreCut() {
        due.about("Number i is v, cut to its sort: as it is there");
        HeardBarrels x = new HeardBarrels();
        for (int sort = 0; sort < 4; sort++) {
            x.numbers(0, sort, 1);
            int bits = 8 << sort;
            long top = bits == 64 ? Long.MAX_VALUE : (1L << bits - 1) - 1;
            long[] values = {top - 1, top, top + 1, -top, -top - 1, -top - 2, 0, 1, -1, 1L << 40};
            long[] want = {top - 1, top, -top - 1, -top, -top - 1, top, 0, 1, -1, sort == 3 ? 1L << 40 : 0};
            for (int i = 0; i < values.length; i++) {
                due.is("write " + values[i] + " to sort " + sort, x.write(0, 0, values[i]), want[i]);
            }
        }
        x.numbers(0, 0, 1);
        long[] bytes = {127, 128, 255, 256, -128, -129};
        long[] want = {127, -128, -1, 0, -128, 127};
        for (int i = 0; i < bytes.length; i++) {
            due.is("write " + bytes[i], x.write(0, 0, bytes[i]), want[i]);
        }
    }

    private static void writesAreRefused() {
        due.about("-2: no such ROW; -6; -7");
        Twins twins = new Twins(due, Twins::rich);
        int[] none = {-1, 4, LEAST, GREATEST};
        for (int i : none) {
            twins.still("write(" + i + ", 0, 1)", -2, x -> x.write(i, 0, 1));
            twins.still("write(" + i + ", -1, 1)", -2, x -> x.write(i, -1, 1));
            twins.still("write(0, " + i + ", 1)", -7, x -> x.write(0, i, 1));
            twins.still("write(3, " + i + ", 1)", -6, x -> x.write(3, i, 1));
        }
        twins.still("write(3, 0, 1)", -6, x -> x.write(3, 0, 1));
        twins.still("write(1, 5, 1)", -7, x -> x.write(1, 5, 1));
        twins.still("write(2, 3, 1)", -7, x -> x.write(2, 3, 1));
        // as it is there
        twins.still("write(1, 0, 51)", 51, x -> x.write(1, 0, 51));
    }

    private static void imagesAndNone() {
        due.about("IMAGES 0 to 1 (none at first); -5: none was made");
        HeardBarrels x = due.at("barrel 3;");
        due.is("restore(0)", x.restore(0), -5);
        due.is("restore(1)", x.restore(1), -5);
        due.is("image(1)", x.image(1), 0);
        due.is("restore(0)", x.restore(0), -5);
        due.is("restore(1)", x.restore(1), 0);
        due.is("image(0)", x.image(0), 0);
        due.is("restore(0)", x.restore(0), 0);
        due.is("the shelf", x.count(0), 1);
    }

    private static void imageIsAsItWas() {
        due.about("All that is in an IMAGE is as it was");
        String text = "barrel 5 ripe 100 idle 2;gap;barrel 4 idle 3 bad;barrel 8 stones;hands 2;cold 3;low 9;lie 1;"
                + "left 5;";
        HeardBarrels x = due.at(text);
        x.day(1);
        String first = Due.state(x);
        x.image(0);
        x.leak(0, 1);
        x.swap(2, 3);
        x.put(1, 7);
        x.week(9, 30);
        String second = Due.state(x);
        x.image(1);
        Due.house(x, "gap;left 1;");
        due.is("restore(0)", x.restore(0), 0);
        due.same("the first", Due.state(x), first);
        due.is("sell", x.sell(0), 5);
        due.is("restore(0)", x.restore(0), 0);
        due.same("the first once more", Due.state(x), first);
        x.restore(1);
        due.same("the second", Due.state(x), second);
        x.image(0);
        x.day(0);
        x.restore(0);
        due.same("made anew", Due.state(x), second);
        HeardBarrels late = new HeardBarrels();
        late.image(1);
        Twins.late(late, 0);
        due.is("DAY 9999", late.day(0), -5);
        due.is("restore(1)", late.restore(1), 0);
        due.is("DAY as it was", late.count(4), 0);
        due.is("no PLACES as it was", late.count(0), 0);
        due.is("a day can be", late.day(0), 0);
    }

    private static void imagesAreRefused() {
        due.about("-2; -5: none was made");
        Twins twins = new Twins(due, Twins::rich);
        int[] none = {-1, 2, LEAST, GREATEST};
        for (int i : none) {
            twins.still("image(" + i + ")", -2, x -> x.image(i));
            twins.still("restore(" + i + ")", -2, x -> x.restore(i));
        }
        twins.still("restore(1)", -5, x -> x.restore(1));
    }

    private static void countsOfOthers() {
        due.about("0 PLACES .. 12 RIPE of all together. NONE for others");
        Twins twins = new Twins(due, Twins::rich);
        twins.still("count(-1)", -1, x -> x.count(-1));
        twins.still("count(0)", 5, x -> x.count(0));
        twins.still("count(12)", 245, x -> x.count(12));
        twins.still("count(13)", -1, x -> x.count(13));
        twins.still("count, the least", -1, x -> x.count(LEAST));
        twins.still("count, the greatest", -1, x -> x.count(GREATEST));
        // barrels, sound ones, bad ones, DAY, hands, left, cold, bytes, LINES, low, lie
        int[] want = {5, 4, 2, 2, 1, 2, 3, 1, 20, 8, 15, 3, 245};
        for (int what = 0; what < want.length; what++) {
            int w = what;
            twins.still("count(" + what + ")", want[what], x -> x.count(w));
        }
    }

    private static void countsAtTheirEdges() {
        due.about("1 barrels, 2 sound ones, 3 bad ones (PLACES, bits), 12 RIPE of all together");
        counts("barrel 1 ripe 100;".repeat(12), 12, 12, 12, 0, 1200);
        counts("barrel 1 ripe 100 bad;".repeat(12), 12, 12, 0, 4095, 1200);
        counts("barrel 1 ripe 100 stones;".repeat(12), 12, 12, 0, 0, 1200);
        counts("gap;".repeat(12), 12, 0, 0, 0, 0);
        counts("gap;barrel 1 ripe 1 bad;barrel 1 ripe 2;barrel 1 ripe 4 stones;".repeat(3), 12, 9, 3, 546, 21);
        counts("", 0, 0, 0, 0, 0);
        counts("barrel 1 bad;" + "gap;".repeat(10) + "barrel 1 bad;", 12, 2, 0, 2049, 0);
    }

    private static void counts(String text, int... want) {
        HeardBarrels x = due.at(text);
        int[] what = {0, 1, 2, 3, 12};
        for (int i = 0; i < what.length; i++) {
            due.is("count(" + what[i] + ") of " + text, x.count(what[i]), want[i]);
        }
    }
}

/** Promises 1 to 8, 34, 35, 37 to 39: the house, rows, images, counts. */
public final class HouseTest {
    private static final Due due = new Due();

    public static void main(String[] args) {
        newObject();
        tapeIsFed();
        housesAreRead();
        faultsAreTold();
        barrelsAreTold();
        placesSwap();
        barrelsAreSold();
        barrelsArePut();
        rowsAreWritten();
        imagesAreKept();
        countsAreTold();
        due.end();
    }

    private static void newObject() {
        HeardBarrels x = new HeardBarrels();
        due.same("a new object", Due.state(x), "0 0 0 0 0 12 3 0 0 0 15 4 0 0 -1");
        due.is("barrel(0, 0)", x.barrel(0, 0), -2);
        due.is("NONE", HeardBarrels.NONE, -1);
    }

    private static void tapeIsFed() {
        HeardBarrels x = new HeardBarrels();
        for (int i = 1; i <= 45; i++) {
            due.is("feed", x.feed(0x20202020, 0x20202020, 0x20202020, 0x20202020, 0x20202020), 20L * i);
        }
        due.is("feed beyond 900", x.feed(1, 2, 3, 4, 5), -5);
        due.is("count(8)", x.count(8), 900);
        due.is("house(901)", x.house(901), -3);
        due.is("house(-1)", x.house(-1), -3);
        due.is("the tape stays", x.count(8), 900);
        due.is("house(900)", x.house(900), 0);
        due.is("the tape is empty", x.count(8), 0);
        // what stands behind the first n bytes is no part of the text
        Due.feedAll(x, "cold 12;");
        due.is("house(6)", x.house(6), -32);
        due.is("fault(1)", x.fault(1), 6);
        Due.feedAll(x, "gap;gaps;");
        due.is("house(7)", x.house(7), -32);
        due.is("fault(1)", x.fault(1), 7);
        Due.feedAll(x, "gap;   $");
        due.is("house(7)", x.house(7), 1);
        // "gap;" by its bytes, the highest first; a negative int too
        due.is("feed", x.feed(0x6761703B, 0xFFFFFFFF, 0, 0, 0), 20);
        due.is("house(4)", x.house(4), 1);
        due.is("feed", x.feed(0x6761703B, 0xFFFFFFFF, 0, 0, 0), 20);
        due.is("house(5)", x.house(5), -31);
        due.is("fault(1)", x.fault(1), 4);
    }

    private static void housesAreRead() {
        HeardBarrels x = new HeardBarrels();
        due.is("house", Due.house(x, " barrel 3 ripe 007\nidle 9 stones ;gap ; barrel9bad;low 40;lie 0;"
                + "hands 1;left 6;cold 9;low 1;"), 9);
        due.same("the house", Due.state(x), "3 2 0 4 0 1 6 9 0 9 1 0 7 2 3 7 9 3 0 0 0 1 9 0 0 0 -1");
        x.day(0);
        due.is("DAY", x.count(4), 1);
        due.is("house of nothing", Due.house(x, ""), 0);
        due.same("no places", Due.state(x), "0 0 0 0 0 12 3 0 0 0 15 4 0 0 -1");
        StringBuilder twelve = new StringBuilder();
        for (int i = 0; i < 12; i++) {
            twelve.append(i % 2 == 0 ? "gap;" : "barrel 9 ripe 100 idle 0;");
        }
        due.is("12 places", Due.house(x, twelve + "low 2;"), 13);
        due.is("count(0)", x.count(0), 12);
        due.is("a 13th", Due.house(x, twelve + "low 2;barrel 10;"), -34);
        due.is("its place", x.fault(1), twelve.length() + 6);
        due.is("a text of 900", Due.house(x, twelve + " ".repeat(900 - twelve.length() - 4) + "gap;"), -34);
        due.is("its place", x.fault(1), 896);
    }

    private static void fault(String text, int kind, int place) {
        HeardBarrels x = due.at("barrel 5 ripe 3;gap;cold 1;");
        x.day(1);
        String before = Due.state(x);
        due.is("house of '" + text + "'", Due.house(x, text), kind == 0 ? 0 : -30 - kind);
        due.is("fault(0) of '" + text + "'", x.fault(0), kind);
        due.is("fault(1) of '" + text + "'", x.fault(1), place);
        due.is("the tape of '" + text + "'", x.count(8), 0);
        due.same("all stays with '" + text + "'",
                Due.state(x).replaceAll(" -?\\d+ -?\\d+$", ""), before.replaceAll(" -?\\d+ -?\\d+$", ""));
        due.is("house(1)", x.house(1), -3);
        due.is("it stays the latest that was read", x.fault(0), kind);
    }

    private static void faultsAreTold() {
        fault("gap;Gap;", 1, 4);
        fault("gap;\t", 1, 4);
        fault("barrel 1234;", 1, 7);
        fault("1234", 1, 0);
        fault("gap 0000", 1, 4);
        fault("barrel 1 $ 12", 1, 9);
        fault("gap" + (char) 233, 1, 3);
        fault("gap", 2, 3);
        fault("gap  \n ", 2, 7);
        fault(";", 2, 0);
        fault("12;", 2, 0);
        fault("gap;;", 2, 4);
        fault("gaps;", 2, 0);
        fault("z", 2, 0);
        fault("a" + "z".repeat(60), 2, 0);
        fault("ripe 3;", 2, 0);
        fault("bad;", 2, 0);
        fault("stones;", 2, 0);
        fault("barrel", 2, 6);
        fault("barrel ripe 3;", 2, 7);
        fault("barrel 1 2;", 2, 9);
        fault("barrel 1 ripe;", 2, 13);
        fault("barrel 1 ripe 3 ripe 3;", 2, 16);
        fault("barrel 1 idle 3 idle 3;", 2, 16);
        fault("barrel 1 bad idle 3;", 2, 13);
        fault("barrel 1 bad bad;", 2, 13);
        fault("barrel 1 stones ripe 3;", 2, 16);
        fault("barrel 1 gap;", 2, 9);
        fault("low;", 2, 3);
        fault("low 3 3;", 2, 6);
        fault("low 3", 2, 5);
        fault("low x;", 2, 4);
        fault("barrel 0;", 3, 7);
        fault("barrel 10;", 3, 7);
        fault("barrel 10 $", 3, 7);
        fault("barrel 1 ripe 101;", 3, 14);
        fault("barrel 1 idle 10;", 3, 14);
        fault("low 0;", 3, 4);
        fault("low 41;", 3, 4);
        fault("lie 21;", 3, 4);
        fault("hands 0;", 3, 6);
        fault("hands 13;", 3, 6);
        fault("left 0;", 3, 5);
        fault("left 7;", 3, 5);
        fault("cold 10;", 3, 5);
        fault("gap;gap;gap;gap;gap;gap;gap;gap;gap;gap;gap;gap; barrel", 4, 49);
        fault("gap;gap;gap;gap;gap;gap;gap;gap;gap;gap;gap;gap; gap", 4, 49);
        HeardBarrels x = new HeardBarrels();
        due.is("fault(0) of none", x.fault(0), 0);
        due.is("fault(1) of none", x.fault(1), -1);
        due.is("fault(2)", x.fault(2), -1);
        due.is("fault(-1)", x.fault(-1), -1);
        Due.house(x, "tub");
        Due.house(x, "gap;");
        due.is("fault(0) of a good one", x.fault(0), 0);
        due.is("fault(1) of a good one", x.fault(1), -1);
    }

    private static void barrelsAreTold() {
        HeardBarrels x = due.at("barrel 5 ripe 3 idle 2;barrel 6 bad;barrel 7 ripe 100 stones;gap;");
        int[][] want = {{0, 5, 3, 2}, {1, 6, 0, 0}, {2, 7, 100, 0}, {3, 0, 0, 0}};
        for (int p = 0; p < 4; p++) {
            for (int what = 0; what < 4; what++) {
                due.is("barrel(" + p + ", " + what + ")", x.barrel(p, what), want[p][what]);
            }
        }
        due.is("barrel(4, 0)", x.barrel(4, 0), -2);
        due.is("barrel(-1, 0)", x.barrel(-1, 0), -2);
        due.is("barrel(0, 4)", x.barrel(0, 4), -2);
        due.is("barrel(0, -1)", x.barrel(0, -1), -2);
    }

    private static void placesSwap() {
        HeardBarrels x = due.at("barrel 5 ripe 3 idle 2;barrel 6 bad;gap;");
        due.is("swap(0, 2)", x.swap(0, 2), 0);
        due.is("barrel(0, 0)", x.barrel(0, 0), 3);
        due.is("barrel(0, 1)", x.barrel(0, 1), 0);
        due.is("barrel(2, 1)", x.barrel(2, 1), 5);
        due.is("barrel(2, 3)", x.barrel(2, 3), 2);
        due.is("swap(1, 2)", x.swap(1, 2), 0);
        due.is("count(3)", x.count(3), 4);
        String before = Due.state(x);
        due.is("swap(1, 1)", x.swap(1, 1), 0);
        due.is("swap(0, 3)", x.swap(0, 3), -2);
        due.is("swap(-1, 0)", x.swap(-1, 0), -2);
        due.same("nothing changes", Due.state(x), before);
    }

    private static void barrelsAreSold() {
        HeardBarrels x = due.at("barrel 5 ripe 100;barrel 6 ripe 100 bad;barrel 7 ripe 100 stones;gap;"
                + "barrel 8 ripe 99;");
        String before = Due.state(x);
        due.is("sell(5)", x.sell(5), -2);
        due.is("sell(-1)", x.sell(-1), -2);
        for (int p = 1; p < 5; p++) {
            due.is("sell(" + p + ")", x.sell(p), -5);
        }
        due.same("nothing changes", Due.state(x), before);
        due.is("sell(0)", x.sell(0), 5);
        for (int what = 0; what < 4; what++) {
            due.is("barrel(0, " + what + ")", x.barrel(0, what), what == 0 ? 3 : 0);
        }
        due.is("sell(0) again", x.sell(0), -5);
    }

    private static void barrelsArePut() {
        HeardBarrels x = due.at("barrel 5 ripe 100;gap;");
        String before = Due.state(x);
        due.is("put(2, 1)", x.put(2, 1), -2);
        due.is("put(0, 0)", x.put(0, 0), -5);
        due.is("put(1, 0)", x.put(1, 0), -3);
        due.is("put(1, 10)", x.put(1, 10), -3);
        due.same("nothing changes", Due.state(x), before);
        due.is("put(1, 9)", x.put(1, 9), 0);
        due.is("SALT", x.barrel(1, 1), 9);
        due.is("RIPE", x.barrel(1, 2), 0);
        due.is("count(2)", x.count(2), 2);
    }

    private static void rowsAreWritten() {
        HeardBarrels x = new HeardBarrels();
        long v = 0x123456789ABCDEF0L;
        long[] cut = {(byte) v, (short) v, (int) v, v};
        for (int sort = 0; sort < 4; sort++) {
            due.is("write, MISSING", x.write(sort, 0, 1), -6);
            due.is("numbers", x.numbers(sort, sort, 40), 0);
            due.is("write, cut to sort " + sort, x.write(sort, 39, v), cut[sort]);
            due.is("write(40)", x.write(sort, 40, 1), -7);
            due.is("write(-1)", x.write(sort, -1, 1), -7);
        }
        due.is("write(4)", x.write(4, 0, 1), -2);
        due.is("write(-1)", x.write(-1, 0, 1), -2);
        due.is("numbers(4)", x.numbers(4, 0, 99), -2);
        due.is("numbers(-1)", x.numbers(-1, 0, 1), -2);
        due.is("numbers, sort 4", x.numbers(0, 4, 99), -2);
        due.is("numbers, sort -1", x.numbers(0, -1, 1), -2);
        due.is("numbers, 41", x.numbers(0, 0, 41), -3);
        due.is("numbers, -1", x.numbers(0, 0, -1), -3);
        due.is("the row stays", x.write(0, 39, 255), -1);
        due.is("numbers, 0", x.numbers(0, 0, 0), 0);
        due.is("write", x.write(0, 0, 1), -7);
        Due.house(x, "barrel 1;barrel 2;barrel 3;");
        Due.row(x, 1, 2, 7, 7, 7);
        x.numbers(1, 2, 3);
        due.is("all are 0", x.judge(1, 3), 0);
    }

    private static void imagesAreKept() {
        HeardBarrels x = due.at("barrel 5 ripe 90;gap;barrel 4 idle 3;hands 2;cold 3;");
        due.is("restore(0)", x.restore(0), -5);
        due.is("restore(2)", x.restore(2), -2);
        due.is("restore(-1)", x.restore(-1), -2);
        due.is("image(2)", x.image(2), -2);
        due.is("image(-1)", x.image(-1), -2);
        due.is("image(0)", x.image(0), 0);
        String first = Due.state(x);
        x.day(1);
        x.swap(0, 1);
        due.is("image(1)", x.image(1), 0);
        String second = Due.state(x);
        Due.house(x, "gap;");
        due.is("restore(0)", x.restore(0), 0);
        due.same("as it was", Due.state(x), first);
        x.day(5);
        due.is("restore(1)", x.restore(1), 0);
        due.same("as it was", Due.state(x), second);
        due.is("restore(0)", x.restore(0), 0);
        due.same("an image is not spent", Due.state(x), first);
        Due.row(x, 0, 2, 1);
        x.restore(1);
        due.is("rows aren't in an image", x.judge(0, 0), 0);
        x.feed(0, 0, 0, 0, 0);
        x.restore(1);
        due.is("the tape isn't in an image", x.count(8), 20);
    }

    private static void countsAreTold() {
        HeardBarrels x = due.at("barrel 5 ripe 90;gap;barrel 4 ripe 3 bad;barrel 1 ripe 7 stones;low 3;"
                + "lie 2;hands 7;left 5;cold 8;");
        x.day(8);
        x.feed(0, 0, 0, 0, 0);
        int[] want = {4, 3, 1, 4, 1, 7, 5, 8, 20, 9, 3, 2, 105, -1};
        for (int what = 0; what < want.length; what++) {
            due.is("count(" + what + ")", x.count(what), want[what]);
        }
        due.is("count(-1)", x.count(-1), -1);
    }
}

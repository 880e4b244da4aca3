/** Promises 28 to 33: barrels kept sound, ripe in time, sold to orders, laid apart. */
public final class KeptTest {
    private static final Due due = new Due();

    public static void main(String[] args) {
        barrelsAreKept();
        longestIsFound();
        ripeningIsCounted();
        mostAreRipe();
        ordersAreMet();
        barrelsAreLaidApart();
        due.end();
    }

    private static void plan(HeardBarrels x, int d, int turns, int... sets) {
        due.is("kept(" + d + ", 0)", x.kept(d, 0), turns);
        for (int k = 0; k < sets.length; k++) {
            due.is("kept(" + d + ", " + (10 + k) + ")", x.kept(d, 10 + k), sets[k]);
        }
    }

    private static void barrelsAreKept() {
        HeardBarrels x = due.at("barrel 1;gap;barrel 1;barrel 1 stones;barrel 1;hands 1;left 2;");
        String before = Due.state(x);
        plan(x, 1, 0, 0, -1);
        plan(x, 2, 0, 0, 0, -1);
        plan(x, 3, 3, 1, 4, 16, -1);
        plan(x, 8, 8, 1, 4, 16, 1, 4, 16, 1, 4);
        due.same("nothing changes", Due.state(x), before);
        due.is("what", x.kept(1, 18), -2);
        due.is("what", x.kept(1, 9), -2);
        due.is("what", x.kept(1, 1), -2);
        due.is("what first", x.kept(0, -1), -2);
        due.is("d", x.kept(0, 0), -3);
        due.is("d", x.kept(9, 0), -3);
        HeardBarrels six = due.at("barrel 1;".repeat(6) + "barrel 1 bad;barrel 1 stones;");
        due.is("d first", six.kept(9, 0), -3);
        due.is("six", six.kept(1, 0), -4);
        due.is("five", due.at("barrel 1;".repeat(5) + "barrel 1 stones;").kept(8, 0), 10);
        HeardBarrels late = due.at("barrel 1 idle 9;barrel 1 idle 9;gap;barrel 1 bad;hands 1;");
        due.is("two must be turned", late.kept(1, 0), -1);
        due.is("no set then", late.kept(1, 10), -1);
        plan(due.at("barrel 1 idle 9;barrel 1;"), 2, 1, 1, 0);
        // beside a bad one it waits half as long; with left 1 it is turned each day
        plan(due.at("barrel 1 bad;barrel 1;left 1;"), 3, 3, 2, 2, 2);
        plan(due.at("barrel 1 bad;barrel 1;left 5;"), 6, 2, 0, 0, 2, 0, 0, 2);
        plan(new HeardBarrels(), 8, 0, 0, 0, 0, 0, 0, 0, 0, 0);
    }

    private static void longestIsFound() {
        due.is("longest, no places", new HeardBarrels().longest(), 30);
        due.is("longest, six", due.at("barrel 1;".repeat(6)).longest(), -4);
        due.is("longest, hands", due.at("barrel 1;".repeat(5) + "left 1;hands 5;").longest(), 30);
        due.is("longest, 0", due.at("barrel 1 idle 3;gap;barrel 1 idle 3;hands 1;").longest(), 0);
        due.is("longest, 1", due.at("barrel 1;barrel 1;barrel 1;hands 1;left 1;").longest(), 1);
        due.is("longest, 3 of 4", due.at("barrel 1;barrel 1;barrel 1;barrel 1;hands 1;left 2;").longest(), 2);
        due.is("longest, 3", due.at("barrel 1;".repeat(5) + "hands 1;left 3;").longest(), 3);
        due.is("longest, in turn", due.at("barrel 1;".repeat(5) + "hands 1;left 4;").longest(), 30);
        // one in two days and two in three are more than one hand turns; 3, 0, 4 go well
        due.is("longest, with a bad neighbour",
                due.at("barrel 1;barrel 1 bad;gap;barrel 1;barrel 1;hands 1;left 2;").longest(), 3);
        // one in two days and two in four can go on
        due.is("longest, with a bad neighbour",
                due.at("barrel 1;barrel 1 bad;gap;barrel 1;barrel 1;hands 1;left 3;").longest(), 30);
    }

    private static void ripeningIsCounted() {
        HeardBarrels x = due.at("barrel 1;barrel 9 ripe 82;barrel 9 ripe 81;barrel 5 ripe 100;barrel 5 bad;"
                + "barrel 5 stones;gap;");
        int[] want = {50, 1, 2, 0, -1, -1, -1, -2};
        for (int p = 0; p < want.length; p++) {
            due.is("ripeIn(" + p + ")", x.ripeIn(p), want[p]);
        }
        due.is("ripeIn(-1)", x.ripeIn(-1), -2);
    }

    private static void ripe(HeardBarrels x, int d, int... want) {
        for (int what = 0; what < 3; what++) {
            due.is("ripeBy(" + d + ", " + what + ")", x.ripeBy(d, what), want[what]);
        }
    }

    private static void mostAreRipe() {
        HeardBarrels x = due.at("barrel 5 ripe 80;barrel 5 ripe 80;gap;barrel 5 ripe 85;barrel 9 ripe 100 bad;"
                + "barrel 9 ripe 99 stones;barrel 2 ripe 100;hands 1;");
        ripe(x, 1, 1, 0, 64);
        ripe(x, 2, 2, 1, 64 + 8);
        ripe(x, 3, 4, 2, 64 + 8 + 2 + 1);
        ripe(x, 4, 4, 0, 64 + 8 + 2 + 1);
        ripe(x, 60, 4, 0, 64 + 8 + 2 + 1);
        due.is("what", x.ripeBy(0, 3), -2);
        due.is("what", x.ripeBy(1, -1), -2);
        due.is("d", x.ripeBy(0, 0), -3);
        due.is("d", x.ripeBy(61, 0), -3);
        ripe(new HeardBarrels(), 1, 0, 0, 0);
        ripe(due.at("barrel 1;barrel 1;barrel 1;hands 2;"), 50, 2, 100, 3);
        ripe(due.at("barrel 1;barrel 1;barrel 1;hands 2;"), 49, 0, 0, 0);
        // a barrel that would be bad long before counts all the same
        ripe(due.at("barrel 2 idle 9;left 1;"), 50, 1, 0, 1);
    }

    private static void ordersAreMet() {
        HeardBarrels x = due.at("barrel 5 ripe 80;barrel 5 ripe 100;gap;barrel 5 ripe 90;barrel 9 ripe 100 bad;");
        due.is("orders, MISSING", x.orders(0, 0), -6);
        due.is("orders, what and MISSING", x.orders(0, 1), -2);
        due.is("orders, the row", x.orders(4, 0), -2);
        Due.row(x, 0, 3, 2, 0, Long.MAX_VALUE, 1);
        int[] want = {3, 0, 1, 3, -1, -1};
        orders(x, 0, want);
        due.is("orders, what", x.orders(0, 9), -2);
        due.is("orders, what", x.orders(0, 20), -2);
        due.is("orders, no such", x.orders(0, 19), -1);
        Due.row(x, 0, 0, 0, 0, 1);
        orders(x, 0, 2, 1, -1, 3);
        Due.row(x, 0, 0, 5, 5, 5, 5, 0);
        orders(x, 0, 3, 0, 1, 3, -1, -1);
        Due.row(x, 0, 0, 1, 0, 0);
        orders(x, 0, 2, 3, 1, -1);
        x.numbers(0, 0, 11);
        x.write(0, 3, -1);
        due.is("orders, 11", x.orders(0, 0), -4);
        x.numbers(0, 0, 10);
        due.is("orders, 10", x.orders(0, 0), 1);
        x.write(0, 9, -1);
        due.is("orders, below 0", x.orders(0, 10), -3);
        x.numbers(0, 0, 0);
        due.is("orders, none", x.orders(0, 0), 0);
        due.is("orders, none", x.orders(0, 10), -1);
    }

    private static void orders(HeardBarrels x, int row, int... want) {
        due.is("orders(0)", x.orders(row, 0), want[0]);
        for (int k = 1; k < want.length; k++) {
            due.is("orders(" + (9 + k) + ")", x.orders(row, 9 + k), want[k]);
        }
    }

    private static void laid(HeardBarrels x, int difference, int... want) {
        due.is("apart(0)", x.apart(0), difference);
        for (int p = 0; p < want.length; p++) {
            due.is("apart(" + (10 + p) + ")", x.apart(10 + p), want[p]);
        }
        due.is("apart, what", x.apart(10 + want.length), -2);
        due.is("apart, what", x.apart(9), -2);
        due.is("apart, what", x.apart(-1), -2);
    }

    private static void barrelsAreLaidApart() {
        laid(new HeardBarrels(), -1);
        laid(due.at("gap;gap;"), -1, -1, -1);
        laid(due.at("barrel 1;gap;barrel 9;"), -1, 0, -1, 2);
        laid(due.at("barrel 1;barrel 1;"), 0, 0, 1);
        // tones 121, 122, 123 and, a bad one's, 107
        laid(due.at("barrel 1;barrel 2;barrel 3;barrel 2 bad;"), 2, 0, 2, 3, 1);
        laid(due.at("barrel 1;barrel 2;gap;barrel 3 bad;barrel 4 stones;"), 14, 0, 4, -1, 1, 3);
        HeardBarrels nine = due.at("barrel 1;".repeat(9));
        due.is("apart, nine", nine.apart(0), -4);
        due.is("apart, what first", nine.apart(19), -2);
        due.is("apart, eight", due.at("barrel 1;".repeat(8) + "gap;").apart(18), -1);
        HeardBarrels x = due.at("barrel 1;barrel 2;");
        String before = Due.state(x);
        x.apart(0);
        due.same("nothing changes", Due.state(x), before);
    }
}

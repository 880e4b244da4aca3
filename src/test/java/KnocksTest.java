/** Promises 16 to 27 and 36: tones, knocks, which sets fit, where to knock. */
public final class KnocksTest {
    private static final Due due = new Due();

    public static void main(String[] args) {
        tonesAreTold();
        knocksAreHeard();
        setsFit();
        nextKnockIsFound();
        waysAndLikesAreCounted();
        enoughIsFound();
        knocksAreNeeded();
        knocksAreCopied();
        due.end();
    }

    private static void tonesAreTold() {
        HeardBarrels x = due.at("barrel 4 ripe 41;barrel 9 ripe 100 bad;gap;barrel 3 ripe 50 stones;low 40;"
                + "cold 9;");
        due.is("tone(0)", x.tone(0), 104);
        due.is("tone(1)", x.tone(1), 39);
        due.is("tone(2)", x.tone(2), -5);
        due.is("tone(3)", x.tone(3), 20);
        due.is("tone(4)", x.tone(4), -2);
        due.is("tone(-1)", x.tone(-1), -2);
    }

    private static void knocksAreHeard() {
        HeardBarrels x = due.at("barrel 1 bad;barrel 2;barrel 3 bad;barrel 4;gap;barrel 5;gap;");
        int[] want = {106, 114, 108, 124 - 4 + 1, -1000, 127};
        for (int p = 0; p < want.length; p++) {
            due.is("knock(" + p + ")", x.knock(p), want[p]);
        }
        due.is("knock(7)", x.knock(7), -1000);
        due.is("knock(-1)", x.knock(-1), -1000);
        due.is("heard(0, 0)", x.heard(0, 0), 121);
        due.is("heard(0, 1)", x.heard(0, 1), 106);
        due.is("heard(0, 3)", x.heard(0, 3), 102);
        due.is("heard(1, 5)", x.heard(1, 5), 114);
        due.is("heard(3, 40)", x.heard(3, 40), 110);
        due.is("heard(4, 0)", x.heard(4, 0), -1000);
        due.is("heard(7, 0)", x.heard(7, 0), -1000);
        due.is("heard(0, 16)", x.heard(0, 16), -1000);
        due.is("heard(0, 128)", x.heard(0, 128), -1000);
        due.is("heard(0, -1)", x.heard(0, -1), -1000);
        HeardBarrels y = due.at("barrel 1;barrel 1 stones;barrel 1;lie 20;cold 2;");
        due.is("heard, cut downward", y.heard(1, 5), -7);
        due.is("heard, cut", y.heard(1, 1), 0);
        due.is("heard, cut", y.heard(1, 0), 6);
        due.is("heard, stones are stones", y.heard(0, 2), -1000);
    }

    private static HeardBarrels three() {
        return due.at("barrel 1;barrel 1 bad;gap;barrel 1 stones;barrel 1;");
    }

    private static void setsFit() {
        HeardBarrels x = three();
        Due.row(x, 0, 1, 999, 999, 999, 999, 999);
        due.is("fit, no knocks", x.fit(0), 8);
        int[] sets = {0, 1, 2, 3, 16, 17, 18, 19, -1};
        for (int k = 0; k < sets.length; k++) {
            due.is("fitting(0, " + k + ")", x.fitting(0, k), sets[k]);
        }
        due.is("fitting(0, -1)", x.fitting(0, -1), -1);
        due.is("sure", x.sure(0, true), 0);
        due.is("sure not", x.sure(0, false), 0);
        x.write(0, 0, 117);
        due.is("fit", x.fit(0), 2);
        due.is("fitting(0, 1)", x.fitting(0, 1), 18);
        due.is("sure", x.sure(0, true), 2);
        due.is("sure not", x.sure(0, false), 1);
        x.write(0, 3, 17);
        due.is("fit", x.fit(0), 1);
        due.is("fitting(0, 0)", x.fitting(0, 0), 18);
        due.is("sure", x.sure(0, true), 18);
        due.is("sure not", x.sure(0, false), 1);
        x.write(0, 2, 0);
        due.is("a knock at a gap", x.fit(0), 0);
        due.is("fitting", x.fitting(0, 0), -1);
        due.is("sure", x.sure(0, true), 0);
        due.is("sure not", x.sure(0, false), 0);
        x.write(0, 2, -1000);
        due.is("a knock at a gap", x.fit(0), 0);
        refused(x);
        HeardBarrels none = new HeardBarrels();
        none.numbers(0, 0, 0);
        due.is("fit, no places", none.fit(0), 1);
        due.is("fitting, no places", none.fitting(0, 0), 0);
        due.is("needed, no places", none.needed(0), 0);
    }

    private static void refused(HeardBarrels x) {
        x.numbers(2, 2, 4);
        x.numbers(3, 2, 6);
        int[] rows = {-1, 4, 1, 2, 3};
        int[] codes = {-2, -2, -6, -7, -7};
        for (int i = 0; i < rows.length; i++) {
            String of = "(" + rows[i] + ")";
            due.is("fit" + of, x.fit(rows[i]), codes[i]);
            due.is("fitting" + of, x.fitting(rows[i], 0), codes[i]);
            due.is("sure" + of, x.sure(rows[i], true), codes[i]);
            due.is("sure" + of, x.sure(rows[i], false), codes[i]);
            due.is("next" + of, x.next(rows[i]), codes[i]);
            due.is("worst" + of, x.worst(rows[i]), codes[i]);
            due.is("needed" + of, x.needed(rows[i]), codes[i]);
        }
    }

    private static void nextKnockIsFound() {
        HeardBarrels x = three();
        Due.row(x, 0, 1, 999, 999, 999, 999, 999);
        due.is("next", x.next(0), 0);
        due.is("worst", x.worst(0), 2);
        x.write(0, 0, 117);
        // place 1 tells nothing more; stones tell of their neighbour
        due.is("next", x.next(0), 3);
        due.is("worst", x.worst(0), 1);
        x.write(0, 3, 17);
        due.is("next, one fits", x.next(0), -1);
        due.is("worst, one fits", x.worst(0), -1);
        HeardBarrels y = due.at("barrel 1;barrel 1;low 1;lie 0;cold 9;");
        Due.row(y, 0, 1, y.heard(0, 0), y.heard(1, 0));
        due.is("next, nowhere", y.next(0), -1);
        due.is("worst, nowhere", y.worst(0), -1);
        Due.row(y, 0, 1, y.heard(0, 0), 999);
        due.is("next, though it tells nothing", y.next(0), 1);
        due.is("worst, though it tells nothing", y.worst(0), y.fit(0));
    }

    private static void waysAndLikesAreCounted() {
        HeardBarrels x = three();
        due.is("ways(0, 117)", x.ways(0, 117), 2);
        due.is("ways(0, 121)", x.ways(0, 121), 2);
        due.is("ways(3, 21)", x.ways(3, 21), 4);
        due.is("ways(3, 17)", x.ways(3, 17), 4);
        due.is("ways(4, 121)", x.ways(4, 121), 4);
        due.is("ways(0, 0)", x.ways(0, 0), 0);
        due.is("ways, a gap", x.ways(2, 0), -2);
        due.is("ways, no place", x.ways(5, 0), -2);
        due.is("ways, no place", x.ways(-1, 0), -2);
        due.is("alike(19)", x.alike(19), 1);
        due.is("alike, a gap", x.alike(4), -3);
        due.is("alike, stones", x.alike(8), -3);
        due.is("alike, no place", x.alike(32), -3);
        due.is("alike, no place", x.alike(-1), -3);
        // lowered by 1 and divided by 10 all three sound alike
        HeardBarrels y = due.at("barrel 5;gap;barrel 5;gap;barrel 5;low 1;cold 9;");
        due.is("alike(0)", y.alike(0), 8);
        due.is("alike(21)", y.alike(21), 8);
        // lowered as much by an own bad one as by a neighbour
        HeardBarrels z = due.at("barrel 1;barrel 1;low 3;lie 3;");
        due.is("alike(1)", z.alike(1), 2);
        due.is("alike(3)", z.alike(3), 1);
    }

    private static void enoughIsFound() {
        due.is("enough, no places", new HeardBarrels().enough(), 0);
        due.is("enough, stones alone", due.at("barrel 1 stones;gap;").enough(), 0);
        due.is("enough", due.at("barrel 1;barrel 1;").enough(), 1);
        due.is("enough", due.at("barrel 1;barrel 1;barrel 1;").enough(), 3);
        due.is("enough, stones tell", due.at("barrel 1 stones;barrel 1;low 1;cold 1;").enough(), 1);
        due.is("enough, apart", due.at("barrel 1;gap;barrel 1 bad;").enough(), 5);
        due.is("enough, none", due.at("barrel 1;barrel 1;low 3;lie 3;").enough(), -1);
        due.is("enough, eight", due.at("barrel 1;".repeat(8) + "barrel 1 stones;".repeat(4)).enough(), 85);
        due.is("enough, nine", due.at("barrel 1;".repeat(9)).enough(), -4);
    }

    private static void knocksAreNeeded() {
        HeardBarrels x = three();
        Due.row(x, 0, 1, 999, 999, 999, 999, 999);
        due.is("needed", x.needed(0), 2);
        x.write(0, 0, 117);
        due.is("needed", x.needed(0), 1);
        x.write(0, 3, 17);
        due.is("needed, one fits", x.needed(0), 0);
        x.write(0, 3, 16);
        due.is("needed, none fit", x.needed(0), -1);
        HeardBarrels y = due.at("barrel 1;barrel 1;low 3;lie 3;");
        Due.row(y, 0, 1, 999, 999);
        due.is("needed, can't be told", y.needed(0), -1);
        HeardBarrels z = due.at("barrel 1;gap;barrel 1;gap;barrel 1;gap;barrel 1;");
        Due.row(z, 0, 1, 999, 999, 999, 999, 999, 999, 999);
        due.is("needed, 16 fit", z.needed(0), -4);
        z.write(0, 0, z.heard(0, 0));
        due.is("needed, 8 fit", z.needed(0), 3);
        // each knock tells how many of two or three are bad: all three are needed
        HeardBarrels w = due.at("barrel 1;barrel 1;barrel 1;low 4;lie 4;");
        Due.row(w, 0, 1, 999, 999, 999);
        due.is("needed, by sums", w.needed(0), 3);
    }

    private static void knocksAreCopied() {
        HeardBarrels x = three();
        String before = Due.state(x);
        due.is("copy, MISSING", x.copy(0, 0), -6);
        due.is("copy, the row", x.copy(0, 4), -2);
        due.is("copy, the row", x.copy(0, -1), -2);
        Due.row(x, 0, 1, 1, 2, 4, 8);
        due.is("copy, too short", x.copy(-1, 0), -7);
        due.is("nothing comes", x.judge(0, 0), 2);
        Due.row(x, 0, 2, 1, 2, 3, 4, 5, 6);
        due.is("copy, a set", x.copy(32, 0), -3);
        due.is("copy, a set", x.copy(-1, 0), -3);
        due.is("copy", x.copy(1 | 2 | 4, 0), 5);
        Due.row(x, 0, 2, 1, 2, 3, 4, 5);
        due.is("copy", x.copy(1 | 2 | 4, 0), 5);
        due.is("fit", x.fit(0), 2);
        due.is("fitting", x.fitting(0, 0), 2);
        x.copy(31, 0);
        due.is("fit", x.fit(0), 1);
        x.copy(0, 0);
        due.is("fit", x.fit(0), 8);
        x.numbers(1, 0, 5);
        due.is("copy, cut to 8 bits", x.copy(31, 1), 5);
        due.is("999 isn't one of 8 bits", x.fit(1), 0);
        due.same("nothing changes", Due.state(x), before);
        // numbers behind those of the places stay
        HeardBarrels y = due.at("barrel 1;");
        Due.row(y, 0, 2, 5, 1);
        y.copy(0, 0);
        due.is("perform", y.perform(0), 0);
        y.write(0, 0, 0);
        due.is("perform", y.perform(0), 2);
        due.is("RIPE", y.barrel(0, 2), 3);
    }
}

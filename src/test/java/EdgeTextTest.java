import java.util.function.ToIntFunction;

/** Edges of "Terms" on THE HOUSE (bounds, TOKENS, FAULTS) and of promises 2 to 4, each sentence for itself. */
public final class EdgeTextTest {
    private static final Due due = new Due();
    private static final String TWELVE = "gap;".repeat(12);

    public static void main(String[] args) {
        textHas900Bytes();
        tapeHas900Bytes();
        bytesComeHighestFirst();
        firstBytesAreTheHouse();
        tapeIsEmptyThen();
        numberOfBytesIsRefused();
        allStaysWithAFault();
        newHouseTakesNothingOver();
        linesAreCounted();
        numbersHaveBounds();
        laterOnesStrike();
        twelvePlacesAtMost();
        partsOfABarrelCanBeLeftOut();
        everyFirstByte();
        everyByteBehindAWord();
        everyByteBehindDigits();
        tokensGoOn();
        wordsAreWholeWords();
        digitsAreThreeAtMost();
        faultsAtTheEnd();
        everyPartOfAText();
        firstFaultAlongTheText();
        leastKindOfOneToken();
        latestHouseIsTold();
        due.end();
    }

    private static void fault(String text, int kind, int place) {
        HeardBarrels x = due.at("barrel 5;cold 1;");
        fault(x, text, kind, place);
        due.is("LINES stay with '" + text + "'", x.count(9), 2);
    }

    private static void fault(HeardBarrels x, String text, int kind, int place) {
        due.is("house of '" + text + "'", Due.house(x, text), -30 - kind);
        due.is("fault(0) of '" + text + "'", x.fault(0), kind);
        due.is("fault(1) of '" + text + "'", x.fault(1), place);
    }

    private static void good(String text, int lines) {
        HeardBarrels x = new HeardBarrels();
        due.is("house of '" + text + "'", Due.house(x, text), lines);
        due.is("fault(0) of '" + text + "'", x.fault(0), 0);
        due.is("fault(1) of '" + text + "'", x.fault(1), -1);
    }

    private static void textHas900Bytes() {
        due.about("a TEXT of at most 900 bytes");
        String text = " ".repeat(896) + "gap;";
        HeardBarrels x = new HeardBarrels();
        Due.feedAll(x, text);
        due.is("house(901)", x.house(901), -3);
        due.is("house(900)", x.house(900), 1);
        due.is("PLACES", x.count(0), 1);
        Due.feedAll(x, text);
        due.is("house(899)", x.house(899), -32);
        due.is("fault(1)", x.fault(1), 899);
        Due.feedAll(x, text);
        due.is("house(896)", x.house(896), 0);
        due.is("without one: no PLACES", x.count(0), 0);
        Due.feedAll(x, " ".repeat(899) + "g");
        due.is("house(900), a wrong last byte", x.house(900), -32);
        due.is("fault(1)", x.fault(1), 899);
    }

    private static void tapeHas900Bytes() {
        due.about("-5: it would have more than 900");
        HeardBarrels x = new HeardBarrels();
        for (int i = 1; i <= 44; i++) {
            due.is("feed", x.feed(i, i, i, i, i), 20L * i);
        }
        due.is("count(8), 20 below", x.count(8), 880);
        due.is("feed to 900", x.feed(1, 1, 1, 1, 1), 900);
        due.is("feed beyond", x.feed(1, 1, 1, 1, 1), -5);
        due.is("feed beyond once more", x.feed(0, 0, 0, 0, 0), -5);
        due.is("count(8)", x.count(8), 900);
        Twins full = new Twins(due, y -> {
            Twins.rich(y);
            Due.feedAll(y, "barrel 4;".repeat(4) + "  \n gap;" + "lie 5;".repeat(139) + "  ");
        });
        full.still("count(8)", 900, y -> y.count(8));
        full.still("feed beyond 900", -5, y -> y.feed(0x67617020, 0x20202020, 0x20202020, 0x20202020, 0));
    }

    private static void bytesComeHighestFirst() {
        due.about("Twenty bytes come behind those on THE TAPE, the highest of each int first");
        HeardBarrels x = new HeardBarrels();
        // "barrel 9 ripe 87 idl" and "e 6 bad;" with signs behind that are none
        due.is("feed", x.feed(0x62617272, 0x656C2039, 0x20726970, 0x65203837, 0x2069646C), 20);
        due.is("feed", x.feed(0x65203620, 0x6261643B, 0xFFFFFFFF, 0x80000000, 0x7FFFFFFF), 40);
        due.is("house(28)", x.house(28), 1);
        due.same("as it is told", Due.state(x), "1 1 0 1 0 12 3 0 0 1 15 4 87 1 9 87 6 0 -1");
        for (int i = 0; i < 4; i++) {
            x.feed(0x6761703B, 0x20202020, 0x20202020, 0x20202020, 0x20202020 | 0xFF << 8 * i);
            due.is("house(20)", x.house(20), -31);
            due.is("the byte that is no sign", x.fault(1), 19 - i);
        }
    }

    private static void firstBytesAreTheHouse() {
        due.about("The first n bytes of THE TAPE are THE HOUSE");
        HeardBarrels x = new HeardBarrels();
        int[] want = {0, -32, -32, -32, 1, -32, -32, -32, 2, 2, -31};
        for (int n = 0; n < want.length; n++) {
            Due.feedAll(x, "gap;gap; $");
            due.is("house(" + n + ")", x.house(n), want[n]);
            // "g" and "ga" are words that can't stand there, behind "gap" the end can't
            int[] places = {-1, 0, 0, 3, -1, 4, 4, 7, -1, -1, 9};
            due.is("its fault(1)", x.fault(1), places[n]);
        }
    }

    private static void tapeIsEmptyThen() {
        due.about("THE TAPE (which is empty then)");
        HeardBarrels x = new HeardBarrels();
        Due.feedAll(x, "gap;gap;gap;gap;gap;gap;");
        due.is("house(4)", x.house(4), 1);
        due.is("count(8)", x.count(8), 0);
        due.is("house(1)", x.house(1), -3);
        due.is("house(0)", x.house(0), 0);
        due.is("feed", x.feed(0x6C6F7720, 0x333B2020, 0x20202020, 0x20202020, 0x20202020), 20);
        due.is("house(20)", x.house(20), 1);
        due.is("low", x.count(10), 3);
        Due.feedAll(x, "gap;gap;gap;gap;gap;gap$");
        due.is("house(24)", x.house(24), -31);
        due.is("count(8) with a FAULT", x.count(8), 0);
        due.is("feed", x.feed(0x6C6F7720, 0x343B2020, 0x20202020, 0x20202020, 0x20202020), 20);
        due.is("house(20)", x.house(20), 1);
        due.is("low", x.count(10), 4);
    }

    private static void numberOfBytesIsRefused() {
        due.about("-3: n is below 0 or above what there is (THE TAPE stays)");
        Twins rich = new Twins(due, Twins::rich);
        rich.still("house(-1)", -3, x -> x.house(-1));
        rich.still("house, the least int", -3, x -> x.house(Integer.MIN_VALUE));
        rich.still("house(21)", -3, x -> x.house(21));
        rich.still("house(901)", -3, x -> x.house(901));
        rich.still("house, the greatest int", -3, x -> x.house(Integer.MAX_VALUE));
        HeardBarrels x = new HeardBarrels();
        due.is("house(1) of none", x.house(1), -3);
        due.is("house(0) of none", x.house(0), 0);
        Due.feedAll(x, "gap;");
        due.is("house(21)", x.house(21), -3);
        due.is("house(20)", x.house(20), 1);
        Due.feedAll(x, "gap;");
        due.is("house(0) of 20", x.house(0), 0);
        due.is("count(0)", x.count(0), 0);
    }

    private static void allStaysWithAFault() {
        due.about("all stays with a FAULT");
        String[] texts = {"gap;low 3;$", "gap;low 3;gap", "gap;left 1;low 41;", TWELVE + "low 3;gap;"};
        for (int i = 0; i < texts.length; i++) {
            String text = texts[i];
            Twins rich = new Twins(due, x -> {
                Twins.rich(x);
                x.house(0);
                x.restore(0);
                Due.feedAll(x, text);
            });
            Twins.Call none = x -> 0;
            int code = -31 - i;
            due.is("house of " + text, code, rich.answer(x -> x.house(text.length())));
            Twins.Call read = x -> x.house(text.length());
            due.same("images", rich.images(read), rich.images(none));
            due.same("rows", rich.rows(read), rich.rows(none));
            due.same("the shelf", Twins.settled(rich.shelf(read)), Twins.settled(rich.shelf(none)));
        }
    }

    private static void newHouseTakesNothingOver() {
        due.about("are THE HOUSE, DAY is 0");
        HeardBarrels x = due.at("barrel 5 ripe 30 idle 2 bad;gap;low 7;lie 8;hands 9;left 5;cold 6;");
        x.day(1);
        x.day(0);
        due.is("DAY", x.count(4), 2);
        due.is("house", Due.house(x, "gap;barrel 3;"), 2);
        due.same("all as if nothing was before", Due.state(x),
                "2 1 1 0 0 12 3 0 0 2 15 4 0 3 0 0 0 0 3 0 0 0 -1");
        x.day(0);
        due.is("house of nothing", Due.house(x, ""), 0);
        due.same("no PLACES", Due.state(x), "0 0 0 0 0 12 3 0 0 0 15 4 0 0 -1");
        due.is("barrel(0, 0)", x.barrel(0, 0), -2);
    }

    private static void linesAreCounted() {
        due.about("how many LINES");
        good("", 0);
        good(" \n ", 0);
        good("gap;", 1);
        good("low 3;", 1);
        good("low 3;low 3;", 2);
        good(TWELVE, 12);
        good(TWELVE + "left 2;", 13);
        // as many as 900 bytes can have
        good("low3;".repeat(180), 180);
        HeardBarrels x = new HeardBarrels();
        Due.house(x, "low3;".repeat(179));
        due.is("count(9)", x.count(9), 179);
    }

    private static void numbersHaveBounds() {
        bounds("barrel ", 1, 9, x -> x.barrel(0, 1));
        bounds("barrel 1 ripe ", 0, 100, x -> x.barrel(0, 2));
        bounds("barrel 1 idle ", 0, 9, x -> x.barrel(0, 3));
        bounds("barrel 1 ripe 7 idle ", 0, 9, x -> x.barrel(0, 3));
        bounds("low ", 1, 40, x -> x.count(10));
        bounds("lie ", 0, 20, x -> x.count(11));
        bounds("hands ", 1, 12, x -> x.count(5));
        bounds("left ", 1, 6, x -> x.count(6));
        bounds("cold ", 0, 9, x -> x.count(7));
    }

    private static void bounds(String before, int least, int most, ToIntFunction<HeardBarrels> told) {
        due.about(before + least + " to " + most);
        int[] numbers = {least - 1, least, least + 1, most - 1, most, most + 1, 100, 101, 999};
        for (int n : numbers) {
            if (n < 0) {
                fault(before + "-1;", 1, before.length());
                continue;
            }
            HeardBarrels x = due.at("barrel 4 ripe 44 idle 4;low 4;lie 4;hands 4;left 4;cold 4;");
            int was = told.applyAsInt(x);
            boolean within = n >= least && n <= most;
            due.is("house of " + before + n, Due.house(x, before + n + ";"), within ? 1 : -33);
            due.is("it is told", told.applyAsInt(x), within ? n : was);
            due.is("fault(0)", x.fault(0), within ? 0 : 3);
            due.is("fault(1)", x.fault(1), within ? -1 : before.length());
            due.is("LINES", x.count(9), within ? 1 : 6);
        }
    }

    private static void laterOnesStrike() {
        due.about("Later ones strike");
        HeardBarrels x = due.at("low 40;lie 20;low 1;hands 1;left 6;cold 9;lie 0;hands 12;gap;left 1;cold 0;"
                + "left 2;");
        int[] what = {10, 11, 5, 6, 7, 9};
        int[] want = {1, 0, 12, 2, 0, 12};
        for (int i = 0; i < what.length; i++) {
            due.is("count(" + what[i] + ")", x.count(what[i]), want[i]);
        }
        // an earlier one out of its bounds is a FAULT all the same
        fault("low 41;low 1;", 3, 4);
    }

    private static void twelvePlacesAtMost() {
        due.about("PLACES 0, 1 .. as they come, 12 at most");
        String[] one = {"gap;", "barrel 1;", "barrel 9 ripe 100 idle 9 stones;"};
        for (String place : one) {
            for (int n = 11; n <= 12; n++) {
                HeardBarrels x = new HeardBarrels();
                due.is("house", Due.house(x, place.repeat(n)), n);
                due.is("PLACES", x.count(0), n);
                due.is("the last of them", x.barrel(n - 1, 0), x.barrel(0, 0));
                due.is("one more", x.barrel(n, 0), -2);
            }
            fault(place.repeat(12) + "gap;", 4, 12 * place.length());
            fault(place.repeat(12) + "barrel 1;", 4, 12 * place.length());
            fault(place.repeat(12) + "cold 1; \nbarrel", 4, 12 * place.length() + 9);
            fault(place.repeat(12) + "barrel 0;", 4, 12 * place.length());
            fault(place.repeat(12) + "gap $", 4, 12 * place.length());
            good(place.repeat(12) + "cold 1;left 2;", 14);
        }
        HeardBarrels x = due.at("gap;barrel 1;low 2;barrel 2;gap;lie 3;barrel 3;");
        int[] salts = {0, 1, 2, 0, 3};
        for (int p = 0; p < salts.length; p++) {
            due.is("SALT as they come, " + p, x.barrel(p, 1), salts[p]);
        }
    }

    private static void partsOfABarrelCanBeLeftOut() {
        due.about("barrel N [ ripe N ] [ idle N ] [ bad | stones ]");
        String[] parts = {"", " ripe 7", " idle 5", " ripe 7 idle 5"};
        String[] kinds = {"", " bad", " stones"};
        for (int i = 0; i < parts.length; i++) {
            for (int kind = 0; kind < kinds.length; kind++) {
                HeardBarrels x = due.at("barrel 3" + parts[i] + kinds[kind] + ";");
                due.is("kind", x.barrel(0, 0), kind);
                due.is("SALT", x.barrel(0, 1), 3);
                due.is("RIPE", x.barrel(0, 2), i % 2 == 1 ? 7 : 0);
                due.is("IDLE", x.barrel(0, 3), i >= 2 ? 5 : 0);
            }
        }
        fault("barrel 3 idle 5 ripe 7;", 2, 16);
        fault("barrel 3 ripe 7 ripe 7;", 2, 16);
        fault("barrel 3 idle 5 idle 5;", 2, 16);
        fault("barrel 3 bad stones;", 2, 13);
        fault("barrel 3 stones bad;", 2, 16);
        fault("barrel 3 bad ripe 7;", 2, 13);
        fault("barrel 3 stones idle 7;", 2, 16);
        fault("barrel ;", 2, 7);
        fault("barrel bad;", 2, 7);
        fault("gap bad;", 2, 4);
        fault("gap ripe 3;", 2, 4);
        fault("low 3 bad;", 2, 6);
    }

    private static boolean letter(int b) {
        return b >= 97 && b <= 122;
    }

    private static boolean digit(int b) {
        return b >= 48 && b <= 57;
    }

    private static boolean blank(int b) {
        return b == 10 || b == 32;
    }

    private static void everyFirstByte() {
        due.about("blanks (10, 32): words (small letters), N, the sign ;. 1 no TOKEN begins so");
        for (int b = 0; b < 256; b++) {
            String text = (char) b + "";
            if (blank(b)) {
                good(text, 0);
            } else {
                fault(text, letter(b) || digit(b) || b == 59 ? 2 : 1, 0);
            }
        }
    }

    private static void everyByteBehindAWord() {
        due.about("TOKENS, as long as they go on: words (small letters)");
        for (int b = 0; b < 256; b++) {
            String text = "gap" + (char) b;
            if (b == 59) {
                good(text, 1);
            } else if (letter(b)) {
                fault(text, 2, 0);
            } else if (blank(b)) {
                fault(text, 2, 4);
            } else {
                fault(text, digit(b) ? 2 : 1, 3);
            }
        }
    }

    private static void everyByteBehindDigits() {
        due.about("N (1 to 3 digits); 4 digits and more: at their first");
        for (int b = 0; b < 256; b++) {
            String text = "low 015" + (char) b;
            if (b == 59) {
                good(text, 1);
            } else if (digit(b)) {
                fault(text, 1, 4);
            } else if (blank(b)) {
                fault(text, 2, 8);
            } else {
                fault(text, letter(b) ? 2 : 1, 7);
            }
        }
    }

    private static void tokensGoOn() {
        due.about("TOKENS, as long as they go on, between them blanks");
        HeardBarrels x = due.at("barrel7ripe8idle9bad;gap;low2;");
        due.same("without blanks", Due.state(x), "2 1 0 1 0 12 3 0 0 3 2 4 8 1 7 8 9 3 0 0 0 0 -1");
        x = due.at("\n \nbarrel\n7  ripe\n\n8 idle 9\nbad ;\ngap\n;  low\n2\n;\n");
        due.same("with many", Due.state(x), "2 1 0 1 0 12 3 0 0 3 2 4 8 1 7 8 9 3 0 0 0 0 -1");
        fault("ga p;", 2, 0);
        fault("gapgap;", 2, 0);
        fault("barrels 1;", 2, 0);
        fault("barre 1;", 2, 0);
        fault("lo 1;", 2, 0);
        fault("barrel 1 b ad;", 2, 9);
        fault("barrel 1 badd;", 2, 9);
        fault("barrel 1 stone;", 2, 9);
        fault("low 1 0;", 2, 6);
        fault("low 3;;", 2, 6);
        fault("z".repeat(900), 2, 0);
        fault(" ".repeat(899) + "9", 2, 899);
    }

    private static void wordsAreWholeWords() {
        due.about("words (small letters); 2 it can't stand there");
        String[] good = {"barrel 1;", "gap;", "low 1;", "lie 1;", "hands 1;", "left 1;", "cold 1;", "barrel 1 ripe 1;",
            "barrel 1 idle 1;", "barrel 1 bad;", "barrel 1 stones;"};
        for (String text : good) {
            good(text, 1);
            int from = text.startsWith("barrel 1 ") ? 9 : 0;
            for (int at = from; at < text.length() && letter(text.charAt(at)); at++) {
                // another letter, a letter more, a letter less
                char other = text.charAt(at) == 'z' ? 'a' : (char) (text.charAt(at) + 1);
                fault(text.substring(0, at) + other + text.substring(at + 1), 2, from);
                fault(text.substring(0, at) + other + text.substring(at), 2, from);
                fault(text.substring(0, at) + text.substring(at + 1), 2, from);
            }
        }
    }

    private static void digitsAreThreeAtMost() {
        due.about("N (1 to 3 digits)");
        String[] good = {"5", "05", "005", "100", "099"};
        int[] want = {5, 5, 5, 100, 99};
        for (int i = 0; i < good.length; i++) {
            HeardBarrels x = due.at("barrel 1 ripe " + good[i] + ";");
            due.is("RIPE", x.barrel(0, 2), want[i]);
        }
        fault("barrel 1 ripe 0005;", 1, 14);
        fault("barrel 1 ripe 00000000000000000005;", 1, 14);
        fault("barrel 1 ripe 1000;", 1, 14);
        // 4294967301 is 5, if it wraps around
        fault("barrel 1 ripe 4294967301;", 1, 14);
        fault("low " + "0".repeat(896), 1, 4);
    }

    private static void faultsAtTheEnd() {
        due.about("it can't stand there (the end: the text's length)");
        String[] texts = {"gap", "gap ", "gap\n\n", "barrel", "barrel ", "barrel 1", "barrel 1 ripe",
            "barrel 1 ripe 5 ", "barrel 1 idle", "barrel 1 idle 5", "barrel 1 bad", "barrel 1 stones   ", "low",
            "lie ", "hands 1", "left 1 ", "cold", "gap; gap"};
        for (String text : texts) {
            fault(text, 2, text.length());
        }
        // a blank behind the text is no part of it
        HeardBarrels x = new HeardBarrels();
        Due.feedAll(x, "gap  ;");
        due.is("house(4)", x.house(4), -32);
        due.is("fault(1)", x.fault(1), 4);
        fault(" ".repeat(897) + "gap", 2, 900);
    }

    private static void everyPartOfAText() {
        due.about("The first n bytes of THE TAPE");
        String text = "barrel 5 ripe 30 idle 2 bad;\ngap;left 3; cold 1;";
        HeardBarrels x = new HeardBarrels();
        int lines = 0;
        int token = 0;
        for (int n = 1; n <= text.length(); n++) {
            char last = text.charAt(n - 1);
            if (n > 1 && !(letter(last) && letter(text.charAt(n - 2)))) {
                token = n - 1;
            }
            boolean open = letter(last) && n < text.length() && letter(text.charAt(n));
            lines += last == ';' ? 1 : 0;
            boolean whole = text.substring(0, n).trim().endsWith(";");
            Due.feedAll(x, text);
            due.is("house(" + n + ")", x.house(n), whole ? lines : -32);
            due.is("fault(1) of " + n, x.fault(1), whole ? -1 : open ? token : n);
        }
    }

    private static void firstFaultAlongTheText() {
        due.about("FAULTS, the first along the text");
        fault("low 0;$", 3, 4);
        fault("$low 0;", 1, 0);
        fault("low 0;gap gap;", 3, 4);
        fault("gap gap;low 0;", 2, 4);
        fault("low 0;" + TWELVE + "gap;", 3, 4);
        fault(TWELVE + "gap;low 0;", 4, 48);
        fault(TWELVE + "gap$", 4, 48);
        fault("$" + TWELVE + "gap;", 1, 0);
        fault("gap $ gap gap", 1, 4);
        fault("gap gap $", 2, 4);
        fault("gap 1 1234", 2, 4);
        fault("gap 1234 1", 1, 4);
        fault("low 0", 3, 4);
        fault("low 0 0;", 3, 4);
        fault("low 41 bad $", 3, 4);
    }

    private static void leastKindOfOneToken() {
        due.about("of one TOKEN the least kind");
        // no N can stand there, and it is too long, or out of all bounds
        fault("gap 1000;", 1, 4);
        fault("1000", 1, 0);
        fault("gap 999;", 2, 4);
        fault("999", 2, 0);
        // an N can stand there, too long and out of its bounds
        fault("low 1000;", 1, 4);
        fault("low 999;", 3, 4);
        // a 13th PLACE can't stand there
        fault("gap;".repeat(11) + "gap gap;", 2, 48);
        fault("gap;".repeat(11) + "barrel 1 barrel 1;", 2, 53);
        fault(TWELVE + "low gap;", 2, 52);
        fault(TWELVE + "gaps;", 2, 48);
        fault(TWELVE + "$gap;", 1, 48);
        fault(TWELVE + "ripe 3;", 2, 48);
    }

    private static void latestHouseIsTold() {
        due.about("Of the latest house() that was read, what 0: its FAULT (0), 1: its place (NONE)");
        HeardBarrels x = new HeardBarrels();
        told(x, 0, -1);
        x.house(1);
        told(x, 0, -1);
        Due.house(x, "gap;low 0;");
        told(x, 3, 8);
        x.house(-1);
        x.house(1);
        x.house(21);
        told(x, 3, 8);
        x.feed(0, 0, 0, 0, 0);
        x.image(0);
        x.restore(0);
        told(x, 3, 8);
        x.house(0);
        told(x, 0, -1);
        Due.house(x, "$");
        told(x, 1, 0);
        x.house(1);
        told(x, 1, 0);
    }

    private static void told(HeardBarrels x, int kind, int place) {
        due.is("fault(0)", x.fault(0), kind);
        due.is("fault(1)", x.fault(1), place);
        due.is("fault(2)", x.fault(2), -1);
        due.is("fault(-1)", x.fault(-1), -1);
        due.is("fault, the least int", x.fault(Integer.MIN_VALUE), -1);
        due.is("fault, the greatest int", x.fault(Integer.MAX_VALUE), -1);
    }
}

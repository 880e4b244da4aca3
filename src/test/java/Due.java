/** Compares answers with those that are due, counts the wrong ones, and ends a test by its exit code. */
final class Due {
    private int wrong;
    private int asked;
    private String sentence = "";

    /** The sentence of the document that is tested from here on. */
    void about(String words) {
        sentence = "'" + words + "': ";
    }

    void is(String call, long got, long want) {
        asked++;
        if (got != want) {
            wrong++;
            System.out.println(sentence + call + " answered " + got + ", due is " + want);
        }
    }

    /** Puts a text on the tape of an object (with blanks behind it) and reads it: what house() answers. */
    static int house(HeardBarrels x, String text) {
        feedAll(x, text);
        return x.house(text.length());
    }

    static void feedAll(HeardBarrels x, String text) {
        for (int from = 0; from < text.length(); from += 20) {
            x.feed(four(text, from), four(text, from + 4), four(text, from + 8), four(text, from + 12),
                    four(text, from + 16));
        }
    }

    static int four(String text, int from) {
        int value = 0;
        for (int i = from; i < from + 4; i++) {
            value = value << 8 | (i < text.length() ? text.charAt(i) & 255 : 32);
        }
        return value;
    }

    /** A new object with a house that has no fault. */
    HeardBarrels at(String text) {
        HeardBarrels x = new HeardBarrels();
        int lines = house(x, text);
        is("house of " + text, Math.min(lines, 0), 0);
        return x;
    }

    static void row(HeardBarrels x, int row, int sort, long... values) {
        x.numbers(row, sort, values.length);
        for (int i = 0; i < values.length; i++) {
            x.write(row, i, values[i]);
        }
    }

    /** All that can be asked of the state without changing it, as one text. */
    static String state(HeardBarrels x) {
        StringBuilder all = new StringBuilder();
        for (int what = 0; what <= 12; what++) {
            all.append(x.count(what)).append(' ');
        }
        for (int p = 0; p < x.count(0); p++) {
            for (int what = 0; what < 4; what++) {
                all.append(x.barrel(p, what)).append(' ');
            }
        }
        return all.append(x.fault(0)).append(' ').append(x.fault(1)).toString();
    }

    void same(String what, String got, String want) {
        asked++;
        if (!got.equals(want)) {
            wrong++;
            System.out.println(sentence + what + ": " + got + ", due is " + want);
        }
    }

    void end() {
        System.out.println(wrong == 0 ? asked + " answers are as due" : wrong + " answers are not as due");
        if (wrong != 0 || asked == 0) {
            System.exit(1);
        }
    }
}

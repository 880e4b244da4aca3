/**
 * Shows that a call changes nothing: all that can be asked of an object that was asked the call is
 * compared with what one answers that was made alike and wasn't. Asking may change an object, so each
 * question has an object of its own; none is asked more than 512 calls.
 */
final class Twins {
    interface Maker {
        void make(HeardBarrels x);
    }

    interface Call {
        long of(HeardBarrels x);
    }

    private static final Call NO_CALL = x -> 0;

    private final Due due;
    private final Maker maker;
    private final String untouched;

    Twins(Due due, Maker maker) {
        this.due = due;
        this.maker = maker;
        this.untouched = portrait(NO_CALL);
    }

    long answer(Call call) {
        return call.of(after(NO_CALL));
    }

    /** The call answers so, and nothing changes by it. */
    void still(String name, long answer, Call call) {
        due.is(name, answer(call), answer);
        due.same("nothing changes by " + name, portrait(call), untouched);
    }

    /** Whether a call changes something that can be seen. */
    boolean changes(Call call) {
        return !portrait(call).equals(untouched);
    }

    private HeardBarrels after(Call call) {
        HeardBarrels x = new HeardBarrels();
        maker.make(x);
        call.of(x);
        return x;
    }

    String portrait(Call call) {
        return shelf(call) + " / " + text(call) + " / " + images(call) + " / " + rows(call);
    }

    String shelf(Call call) {
        return Due.state(after(call));
    }

    /** What is on the tape, as far as it can be read as a house. */
    String text(Call call) {
        HeardBarrels x = after(call);
        return x.house(x.count(8)) + " " + Due.state(x);
    }

    String images(Call call) {
        StringBuilder all = new StringBuilder();
        for (int i = 0; i < 2; i++) {
            HeardBarrels x = after(call);
            all.append(x.restore(i)).append(' ').append(settled(Due.state(x))).append(" | ");
        }
        return all.toString();
    }

    /** A state without what no image holds: the bytes on the tape and the fault. */
    static String settled(String state) {
        String[] parts = state.split(" ");
        parts[8] = "";
        parts[parts.length - 1] = "";
        parts[parts.length - 2] = "";
        return String.join(" ", parts);
    }

    String rows(Call call) {
        StringBuilder all = new StringBuilder();
        for (int row = 0; row < 4; row++) {
            HeardBarrels x = after(call);
            // 8, 16, 32 and 64 bits of it differ
            long sort = x.write(row, 0, 0x0102030405060708L);
            int size = 0;
            while (size < 40 && x.write(row, size, 0) == 0) {
                size++;
            }
            all.append(sort).append(' ').append(size).append(':');
            for (int i = 0; i < size; i++) {
                all.append(number(call, row, i, size, sort == 8)).append(',');
            }
            all.append(" | ");
        }
        return all.toString();
    }

    /**
     * A number of a row, read as the set that is turned on its day, while on the other days all are;
     * "-": it is no set of 12 places (of 7, with 8 bits).
     */
    private String number(Call call, int row, int i, int size, boolean small) {
        HeardBarrels x = after(call);
        x.house(0);
        int places = small ? 7 : 12;
        Due.house(x, "barrel 1;".repeat(places));
        for (int j = 0; j < size; j++) {
            if (j != i) {
                x.write(row, j, (1 << places) - 1);
            }
        }
        if (x.perform(row) < size) {
            return "-";
        }
        int set = 0;
        for (int p = 0; p < places; p++) {
            set |= x.barrel(p, 2) == 2 * size ? 1 << p : 0;
        }
        return Integer.toString(set);
    }

    /**
     * An object that has something of everything: a shelf (hands 2) on its first day, a row of days, one
     * of knocks, one of orders, one MISSING, an image and none, a text on the tape, a fault.
     */
    static void rich(HeardBarrels x) {
        Due.house(x, "barrel 2 ripe 9;gap;low 7;");
        x.day(1);
        x.image(0);
        Due.house(x, "barrel 5 ripe 30 idle 1;barrel 6 ripe 100 bad;gap;barrel 7 ripe 100 idle 2;"
                + "barrel 8 ripe 5 idle 4 stones;hands 2;lie 3;cold 1;");
        x.day(1);
        Due.house(x, "low 41;");
        Due.row(x, 0, 2, 1, 8, 9, 3);
        Due.row(x, 1, 1, 51, 999, 999, 999, 999);
        Due.row(x, 2, 0, 3, 0, 7);
        Due.feedAll(x, "gap;lie 2;barrel 4; ");
    }

    /** A shelf with a gap (hands 2) so many days (0 to 39) ahead of DAY 9999; row 0 has two days then. */
    static void late(HeardBarrels x, int ahead) {
        Due.house(x, "barrel 5;gap;barrel 7;barrel 1 stones;hands 2;");
        x.numbers(0, 1, 40);
        for (int i = 0; i < 40; i++) {
            x.write(0, i, 5);
        }
        for (int i = 0; i < 249; i++) {
            x.perform(0);
        }
        x.numbers(0, 1, 39 - ahead);
        for (int i = 0; i < 39 - ahead; i++) {
            x.write(0, i, 5);
        }
        x.perform(0);
        Due.row(x, 0, 1, 5, 0);
    }
}

/** That Twins sees what calls change: else it would tell of every refused call that nothing has changed. */
public final class TwinsTest {
    private static final Due due = new Due();

    public static void main(String[] args) {
        Twins rich = new Twins(due, Twins::rich);
        seen(rich, "feed", x -> x.feed(0x67617020, 0, 0, 0, 0));
        seen(rich, "house", x -> x.house(4));
        seen(rich, "house with a FAULT", x -> x.house(5));
        seen(rich, "swap", x -> x.swap(0, 3));
        seen(rich, "sell", x -> x.sell(3));
        seen(rich, "put", x -> x.put(2, 9));
        seen(rich, "day", x -> x.day(0));
        seen(rich, "perform", x -> x.perform(0));
        seen(rich, "week", x -> x.week(1, 1));
        seen(rich, "leak", x -> x.leak(0, 1));
        seen(rich, "numbers of a row that is MISSING", x -> x.numbers(3, 0, 0));
        seen(rich, "numbers, one more", x -> x.numbers(0, 2, 5));
        seen(rich, "numbers, another sort", x -> x.numbers(0, 3, 4));
        seen(rich, "copy", x -> x.copy(0, 1));
        seen(rich, "image(0)", x -> x.image(0));
        seen(rich, "image(1)", x -> x.image(1));
        seen(rich, "restore(0)", x -> x.restore(0));
        int[] sizes = {4, 5, 3};
        for (int row = 0; row < 3; row++) {
            for (int i = 0; i < sizes[row]; i++) {
                int r = row;
                int at = i;
                seen(rich, "write(" + r + ", " + at + ", 64)", x -> x.write(r, at, 64));
                seen(rich, "write(" + r + ", " + at + ", -1)", x -> x.write(r, at, -1));
            }
        }
        Twins late = new Twins(due, x -> Twins.late(x, 0));
        seen(late, "house", x -> x.house(0));
        seen(late, "write", x -> x.write(0, 1, 1));
        due.is("a call that changes nothing", rich.changes(x -> x.count(4)) ? 1 : 0, 0);
        due.end();
    }

    private static void seen(Twins twins, String name, Twins.Call call) {
        due.is("a change by " + name, twins.changes(call) ? 1 : 0, 1);
    }
}

/**
 * What was asked before changes no answer: one object is asked of one house behind the other what new ones
 * are asked of each, from full houses to empty ones and back ("the same calls always give the same answers").
 */
public final class EdgeAgainTest {
    private static final Due due = new Due();
    private static final String[] HOUSES = {
        "barrel 5 ripe 80;gap;barrel 5 ripe 97 idle 2;barrel 9 ripe 100 bad;barrel 1 stones;hands 1;",
        "barrel 1;".repeat(12),
        "",
        "barrel 1;".repeat(8) + "barrel 1 stones;".repeat(4),
        "barrel 1;barrel 1;low 3;lie 3;",
        "barrel 1;".repeat(5) + "hands 1;left 4;",
        "barrel 1;".repeat(5) + "hands 1;left 3;",
        "barrel 1;".repeat(5) + "hands 2;left 3;",
        "barrel 1 idle 4;".repeat(5) + "hands 4;left 4;",
        "barrel 1;barrel 1 bad;barrel 1 idle 4;barrel 1 idle 6;barrel 1 bad;gap;barrel 1;barrel 1 idle 4;hands 1;left 6;",
        "gap;gap;",
        "barrel 1;barrel 2;barrel 3;barrel 4;barrel 5;barrel 6;barrel 7;barrel 8;low 1;lie 0;",
        "barrel 9 ripe 100 bad;barrel 1 ripe 50;low 40;lie 20;cold 9;",
        "barrel 1;barrel 1 stones;barrel 1;barrel 1 stones;barrel 1;gap;barrel 1;cold 9;",
        "barrel 3;gap;barrel 4 idle 3;gap;barrel 5 idle 1;hands 2;left 3;"};

    public static void main(String[] args) {
        due.about("the same calls always give the same answers");
        for (int first = 0; first < HOUSES.length; first++) {
            for (int then = 0; then < HOUSES.length; then++) {
                HeardBarrels used = new HeardBarrels();
                Due.house(used, HOUSES[first]);
                answers(used);
                Due.house(used, HOUSES[then]);
                String got = answers(used);
                HeardBarrels fresh = new HeardBarrels();
                Due.house(fresh, HOUSES[then]);
                due.same("'" + HOUSES[then] + "' behind '" + HOUSES[first] + "'", got, answers(fresh));
                due.same("asked twice", answers(fresh), got);
                oneBehindTheOther(HOUSES[first], HOUSES[then]);
            }
        }
        due.end();
    }

    /** One dear call alone, of one house and then of another, with nothing asked in between. */
    private static void oneBehindTheOther(String first, String then) {
        Twins.Call[] calls = {x -> x.longest(), x -> x.kept(8, 0), x -> x.kept(6, 12), x -> x.enough(),
            x -> x.apart(10), x -> x.apart(0), x -> x.fit(0), x -> x.next(0), x -> x.needed(0)};
        for (int i = 0; i < calls.length; i++) {
            HeardBarrels used = of(first, new HeardBarrels());
            calls[i].of(used);
            long want = calls[i].of(of(then, new HeardBarrels()));
            due.is("call " + i + " of '" + then + "' behind '" + first + "'", calls[i].of(of(then, used)), want);
        }
    }

    /** The object with a house and in row 0 what is heard at its first place. */
    private static HeardBarrels of(String text, HeardBarrels x) {
        Due.house(x, text);
        x.numbers(0, 2, x.count(0));
        x.copy(Math.min(1, x.count(0)), 0);
        return x;
    }

    /** Answers of all calls that work something out; rows 0 to 2 are made anew by it. */
    private static String answers(HeardBarrels x) {
        StringBuilder all = new StringBuilder(Due.state(x));
        int places = x.count(0);
        x.numbers(0, 2, places);
        x.copy(1 << Math.max(0, places - 1) & (1 << places) - 1, 0);
        add(all, x.fit(0), x.fitting(0, 1), x.sure(0, true), x.sure(0, false), x.next(0), x.worst(0), x.needed(0));
        x.copy((1 << places) - 1, 0);
        add(all, x.fit(0), x.fitting(0, 0), x.sure(0, true), x.sure(0, false), x.next(0), x.worst(0), x.needed(0));
        x.copy(0, 0);
        add(all, x.fit(0), x.fitting(0, 3), x.next(0), x.worst(0), x.needed(0));
        add(all, x.enough(), x.alike(0), x.ways(0, x.knock(0)), x.ways(places - 1, 121), x.longest());
        for (int what = 0; what < 18; what = what == 0 ? 10 : what + 1) {
            add(all, x.kept(8, what), x.kept(5, what));
        }
        for (int what = 0; what < 10 + places; what = what == 0 ? 10 : what + 1) {
            add(all, x.apart(what));
        }
        add(all, x.ripeBy(2, 0), x.ripeBy(2, 1), x.ripeBy(2, 2), x.ripeBy(60, 1));
        Due.row(x, 1, 0, 60, 2, 0, 60, 1);
        for (int what = 0; what < 15; what = what == 0 ? 10 : what + 1) {
            add(all, x.orders(1, what));
        }
        Due.row(x, 2, 1, 0, 1, 0, 4, 0);
        for (int what = 0; what < 4; what++) {
            add(all, x.judge(2, what));
        }
        add(all, x.missed(2, 0), x.leftAlone(0), x.leftAlone(2), x.leftAlone(30));
        return all.toString();
    }

    private static void add(StringBuilder all, int... answers) {
        for (int answer : answers) {
            all.append(' ').append(answer);
        }
    }
}

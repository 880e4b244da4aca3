import java.util.Random;

/** Runs of calls by fixed seeds, each answer compared with that of Model, for all promises at once. */
public final class ModelTest {
    private static final int RUNS = 100;
    private static final int HOUSES = 10;
    private static final int STEPS = 24;

    private final Random random;
    private final HeardBarrels x = new HeardBarrels();
    private final Model m = new Model();
    private final Due due;
    private final String name;

    private ModelTest(int seed, Due due) {
        this.random = new Random(seed);
        this.due = due;
        this.name = "seed " + seed + ": ";
    }

    public static void main(String[] args) {
        Due due = new Due();
        int first = args.length > 0 ? Integer.parseInt(args[0]) : 0;
        int runs = args.length > 1 ? Integer.parseInt(args[1]) : RUNS;
        for (int seed = first; seed < first + runs; seed++) {
            new ModelTest(seed, due).run();
        }
        due.end();
    }

    private int upTo(int most) {
        return random.nextInt(most + 1);
    }

    /** Mostly within bounds, now and then just outside or far off. */
    private int about(int least, int most) {
        switch (upTo(30)) {
            case 0:
                return least - 1;
            case 1:
                return most + 1;
            case 2:
                return random.nextInt();
            default:
                return least + upTo(most - least);
        }
    }

    private void run() {
        for (int i = 0; i < HOUSES; i++) {
            newHouse();
            askMany();
            for (int j = 0; j < STEPS; j++) {
                call();
            }
        }
        for (int what = -1; what <= 13; what++) {
            is("count(" + what + ")", x.count(what), m.count(what));
        }
        for (int p = 0; p < m.now.shelf.size(); p++) {
            for (int what = 0; what < 4; what++) {
                is("barrel(" + p + ", " + what + ")", x.barrel(p, what), m.barrel(p, what));
            }
        }
    }

    private void is(String call, long got, long want) {
        due.is(name + call, got, want);
    }

    private String houseText() {
        switch (upTo(3)) {
            case 0:
                return keepersHouse();
            case 1:
                return shelfText(upTo(8)) + "low " + (1 + upTo(6)) + ";lie " + upTo(6) + ";cold " + upTo(9) + ";";
            default:
                return shelfText(upTo(2) == 0 ? upTo(13) : upTo(8)) + settings();
        }
    }

    private String shelfText(int places) {
        StringBuilder text = new StringBuilder();
        boolean few = upTo(1) == 0;
        for (int i = 0; i < places; i++) {
            if (upTo(5) == 0) {
                text.append("gap;");
                continue;
            }
            text.append("barrel ").append(1 + upTo(8));
            text.append(upTo(2) == 0 ? "" : " ripe " + (upTo(3) == 0 ? 100 : upTo(100)));
            text.append(upTo(2) == 0 ? "" : "\nidle " + upTo(upTo(5) == 0 ? 9 : 3));
            int kind = upTo(few ? 3 : 6);
            text.append(kind == 0 ? " bad" : kind == 1 ? " stones" : "").append(upTo(9) == 0 ? " ; " : ";");
        }
        return text.toString();
    }

    private String settings() {
        StringBuilder text = new StringBuilder();
        String[] words = {"low", "lie", "hands", "left", "cold"};
        int[] least = {1, 0, 1, 1, 0};
        int[] most = {40, 20, 12, 6, 9};
        for (int i = 0; i < 5; i++) {
            if (upTo(2) != 0) {
                int top = words[i].equals("hands") && upTo(1) == 0 ? 4 : most[i];
                text.append(words[i]).append(' ').append(least[i] + upTo(top - least[i])).append(';');
            }
        }
        return text.toString();
    }

    /** A few sound barrels, some beside bad ones, and hands that hardly suffice. */
    private String keepersHouse() {
        StringBuilder text = new StringBuilder();
        int sound = 1 + upTo(4);
        for (int i = 0; i < sound; i++) {
            text.append("barrel ").append(1 + upTo(8)).append(" ripe ").append(upTo(40));
            text.append(" idle ").append(upTo(3)).append(";");
            int other = upTo(7);
            text.append(other == 0 ? "barrel 1 bad;" : other == 1 ? "gap;" : other == 2 ? "barrel 3 stones;" : "");
        }
        int hands = upTo(2) == 0 ? 2 : 1;
        int left = Math.max(1, Math.min(6, sound / hands + upTo(2) - 1));
        return text + "hands " + hands + ";left " + left + ";";
    }

    /** Breaks a text at some place by a sign, a word or a number. */
    private String broken(String text) {
        String[] bits = {"", ";", " ", "bad", "stones", "gap;", "barrel 0", "1", "0", "999", "1000", "ripe 5",
            "idle 3 ", "$", "X", "\t", "left 7;", "cold", (char) 200 + "", "gap;gap;gap;gap;"};
        int from = upTo(text.length());
        int to = Math.min(text.length(), from + upTo(4));
        return text.substring(0, from) + bits[upTo(bits.length - 1)] + text.substring(to);
    }

    private void feed(int a, int b, int c, int d, int e) {
        is("feed", x.feed(a, b, c, d, e), m.feed(a, b, c, d, e));
    }

    private void newHouse() {
        String text = houseText();
        if (upTo(3) == 0) {
            text = broken(text);
        }
        x.house(0);
        m.house(0);
        for (int i = 0; i < text.length(); i += 20) {
            feed(Due.four(text, i), Due.four(text, i + 4), Due.four(text, i + 8), Due.four(text, i + 12),
                    Due.four(text, i + 16));
        }
        int n = upTo(9) == 0 ? upTo(text.length() + 30) : text.length();
        is("house of " + text.replace('\n', ' '), x.house(n), m.house(n));
        is("fault(0) of " + text, x.fault(0), m.fault(0));
        is("fault(1) of " + text, x.fault(1), m.fault(1));
    }

    /** What is dear to ask, of a house as it was read: later most barrels are bad. */
    private void askMany() {
        int sound = Integer.bitCount(m.now.mask(0));
        if (sound < 5 || upTo(9) == 0) {
            is("longest()", x.longest(), m.longest());
            int d = sound < 5 ? 1 + upTo(7) : 1 + upTo(5);
            is("kept(" + d + ", 0)", x.kept(d, 0), m.kept(d, 0));
            for (int k = 0; k < (sound < 5 ? d : 2); k++) {
                is("kept(" + d + ", 1" + k + ")", x.kept(d, 10 + k), m.kept(d, 10 + k));
            }
        }
        is("enough()", x.enough(), m.enough());
        for (int i = 0; i < 4; i++) {
            fillRow();
        }
    }

    private int place() {
        return about(0, Math.max(0, m.now.shelf.size() - 1));
    }

    private int setOf(int places) {
        switch (upTo(12)) {
            case 0:
                return random.nextInt();
            case 1:
                return upTo(4095);
            default:
                return upTo(4095) & places;
        }
    }

    /** A row of knocks as some set lets them be heard, of days, or of orders. */
    private int fillRow() {
        int row = about(0, 3);
        int places = m.now.shelf.size();
        int use = upTo(3);
        int n = use <= 1 ? (upTo(12) == 0 ? about(0, 12) : places) : use == 2 ? about(0, 14) : about(0, 11);
        int sort = use <= 1 && upTo(9) != 0 ? 1 + upTo(2) : about(0, 3);
        is("numbers", x.numbers(row, sort, n), m.numbers(row, sort, n));
        int bad = m.now.mask(1);
        if (upTo(1) == 0) {
            bad = upTo(4095) & m.now.mask(0, 1);
        }
        int known = upTo(100);
        for (int i = 0; i < Math.min(n, 40); i++) {
            long v;
            if (use <= 1) {
                v = upTo(99) < known && i < places && m.now.shelf.get(i).kind != 3 ? m.now.heard(i, bad) : 999;
                v += upTo(40) == 0 ? 1 : 0;
            } else if (use == 2) {
                v = setOf(m.now.mask(0, 1, 2)) & (upTo(1) == 0 ? -1 : 1 << upTo(11));
            } else {
                v = upTo(30) == 0 ? random.nextLong() : upTo(upTo(50));
            }
            is("write", x.write(row, i, v), m.write(row, i, v));
        }
        if (use <= 1) {
            askKnocks(row);
        } else if (use == 2) {
            askDays(row);
        } else {
            int what = upTo(1) == 0 ? 0 : 10 + upTo(10);
            is("orders(" + row + ", 0)", x.orders(row, 0), m.orders(row, 0));
            is("orders(" + row + ", " + what + ")", x.orders(row, what), m.orders(row, what));
        }
        return row;
    }

    private void askDays(int row) {
        for (int what = -1; what <= 4; what++) {
            is("judge(" + row + ", " + what + ")", x.judge(row, what), m.judge(row, what));
        }
        int bad = m.judge(row, 2);
        int set = upTo(2) == 0 ? setOf(m.now.mask(0, 1, 2, 3)) : bad;
        is("missed(" + row + ", " + set + ")", x.missed(row, set), m.missed(row, set));
    }

    private void askKnocks(int row) {
        is("fit(" + row + ")", x.fit(row), m.fit(row));
        int k = about(0, Math.max(0, m.fit(row) - 1));
        is("fitting(" + row + ", " + k + ")", x.fitting(row, k), m.fitting(row, k));
        is("sure(" + row + ", true)", x.sure(row, true), m.sure(row, true));
        is("sure(" + row + ", false)", x.sure(row, false), m.sure(row, false));
        is("next(" + row + ")", x.next(row), m.next(row));
        is("worst(" + row + ")", x.worst(row), m.worst(row));
        is("needed(" + row + ")", x.needed(row), m.needed(row));
    }

    private void call() {
        int row = about(0, 3);
        int p = place();
        int q = place();
        switch (upTo(30)) {
            case 0:
                newHouse();
                break;
            case 1:
                is("swap(" + p + ", " + q + ")", x.swap(p, q), m.swap(p, q));
                break;
            case 2:
                is("sell(" + p + ")", x.sell(p), m.sell(p));
                break;
            case 3:
                int salt = about(1, 9);
                is("put(" + p + ", " + salt + ")", x.put(p, salt), m.put(p, salt));
                break;
            case 4:
            case 5:
                int set = setOf(m.now.mask(0, 1, 2));
                is("day(" + set + ")", x.day(set), m.day(set));
                break;
            case 6:
                is("perform(" + row + ")", x.perform(row), m.perform(row));
                break;
            case 7:
                int seed = random.nextInt();
                int days = upTo(5) != 0 ? about(1, 2) : about(1, 30);
                is("week(" + seed + ", " + days + ")", x.week(seed, days), m.week(seed, days));
                break;
            case 8:
                int n = about(0, 30);
                is("leftAlone(" + n + ")", x.leftAlone(n), m.leftAlone(n));
                break;
            case 9:
                int far = about(1, 12);
                is("leak(" + p + ", " + far + ")", x.leak(p, far), m.leak(p, far));
                break;
            case 10:
            case 11:
            case 12:
            case 13:
            case 14:
                fillRow();
                break;
            default:
                askMore(p);
                break;
        }
    }

    private void askMore(int p) {
        int row = about(0, 3);
        switch (upTo(14)) {
            case 0:
                is("tone(" + p + ")", x.tone(p), m.tone(p));
                is("knock(" + p + ")", x.knock(p), m.knock(p));
                break;
            case 1:
                int bad = setOf(m.now.mask(0, 1));
                is("heard(" + p + ", " + bad + ")", x.heard(p, bad), m.heard(p, bad));
                is("alike(" + bad + ")", x.alike(bad), m.alike(bad));
                int v = m.heard(p, bad & m.now.mask(0, 1));
                is("ways(" + p + ", " + v + ")", x.ways(p, v), m.ways(p, v));
                break;
            case 2:
                if (upTo(4) == 0) {
                    is("enough()", x.enough(), m.enough());
                }
                break;
            case 3:
            case 4:
                int d = about(1, 8);
                if (Integer.bitCount(m.now.mask(0)) < 5 || d < 5 || d > 8 || upTo(9) == 0) {
                    int part = upTo(1) == 0 ? 0 : about(10, 17);
                    is("kept(" + d + ", " + part + ")", x.kept(d, part), m.kept(d, part));
                }
                break;
            case 5:
                if (Integer.bitCount(m.now.mask(0)) < 5 || upTo(9) == 0) {
                    is("longest()", x.longest(), m.longest());
                }
                break;
            case 6:
                is("ripeIn(" + p + ")", x.ripeIn(p), m.ripeIn(p));
                break;
            case 7:
                int by = upTo(1) == 0 ? about(1, 60) : about(1, 12);
                for (int what = -1; what <= 3; what++) {
                    is("ripeBy(" + by + ", " + what + ")", x.ripeBy(by, what), m.ripeBy(by, what));
                }
                break;
            case 8:
                if (Integer.bitCount(m.now.mask(0, 1, 2)) != 8 || upTo(3) == 0) {
                    is("apart(0)", x.apart(0), m.apart(0));
                    int to = about(10, 10 + m.now.shelf.size());
                    is("apart(" + to + ")", x.apart(to), m.apart(to));
                }
                break;
            case 9:
                int set = setOf(m.now.mask(0, 1, 2, 3));
                is("copy(" + set + ", " + row + ")", x.copy(set, row), m.copy(set, row));
                askKnocks(row);
                break;
            case 10:
                int i = about(0, 1);
                is("image(" + i + ")", x.image(i), m.image(i));
                break;
            case 11:
                int j = about(0, 1);
                is("restore(" + j + ")", x.restore(j), m.restore(j));
                break;
            case 12:
                int what = about(0, 12);
                is("count(" + what + ")", x.count(what), m.count(what));
                break;
            case 13:
                int part = about(0, 3);
                is("barrel(" + p + ", " + part + ")", x.barrel(p, part), m.barrel(p, part));
                break;
            default:
                askKnocks(row);
                askDays(row);
                break;
        }
    }
}

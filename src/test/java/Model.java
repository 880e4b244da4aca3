import java.util.ArrayList;
import java.util.Arrays;
import java.util.HashMap;
import java.util.HashSet;
import java.util.List;
import java.util.Map;
import java.util.Set;
import java.util.TreeMap;

/**
 * The document once more, written for plainness and not for speed: all ways are tried. It is what
 * ModelTest compares HeardBarrels with.
 */
final class Model {
    /** A barrel, or a gap (kind 3). */
    static final class Cask {
        int kind;
        int salt;
        int ripe;
        int idle;

        Cask(int kind, int salt, int ripe, int idle) {
            this.kind = kind;
            this.salt = salt;
            this.ripe = ripe;
            this.idle = idle;
        }
    }

    static final class State {
        List<Cask> shelf = new ArrayList<>();
        Map<String, Integer> set = new TreeMap<>(
                Map.of("low", 15, "lie", 4, "hands", 12, "left", 3, "cold", 0));
        int day;
        int lines;

        State twin() {
            State s = new State();
            for (Cask c : shelf) {
                s.shelf.add(new Cask(c.kind, c.salt, c.ripe, c.idle));
            }
            s.set = new TreeMap<>(set);
            s.day = day;
            s.lines = lines;
            return s;
        }

        int get(String word) {
            return set.get(word);
        }

        int mask(int... kinds) {
            int m = 0;
            for (int p = 0; p < shelf.size(); p++) {
                for (int k : kinds) {
                    if (shelf.get(p).kind == k) {
                        m |= 1 << p;
                    }
                }
            }
            return m;
        }

        boolean badBeside(int p, int bad) {
            return p > 0 && (bad & 1 << (p - 1)) != 0 || (bad & 1 << (p + 1)) != 0;
        }

        int pass(int turned) {
            int badAtFirst = mask(1);
            int went = 0;
            for (int p = 0; p < shelf.size(); p++) {
                Cask c = shelf.get(p);
                if (c.kind == 3) {
                    continue;
                }
                if ((turned & 1 << p) != 0) {
                    c.idle = 0;
                    if (c.kind == 0) {
                        c.ripe += 2 * c.salt;
                    }
                } else {
                    c.idle += c.kind == 0 && badBeside(p, badAtFirst) ? 2 : 1;
                    if (c.kind == 0) {
                        c.ripe += c.salt;
                    }
                }
                c.idle = Math.min(c.idle, 99);
                c.ripe = Math.min(c.ripe, 100);
                if (c.kind == 0 && c.idle > get("left")) {
                    c.kind = 1;
                    went++;
                }
            }
            day++;
            return went;
        }

        int tone(int p, boolean bad) {
            Cask c = shelf.get(p);
            if (c.kind == 2) {
                return 20;
            }
            return 120 - c.ripe / 2 + c.salt - (bad ? get("low") : 0);
        }

        int heard(int p, int bad) {
            int v = tone(p, (bad & 1 << p) != 0);
            for (int q : new int[] {p - 1, p + 1}) {
                if (q >= 0 && q < shelf.size()) {
                    if ((bad & 1 << q) != 0) {
                        v -= get("lie");
                    }
                    if (shelf.get(q).kind == 3) {
                        v += 1;
                    }
                }
            }
            return (int) Math.floor(v / (double) (get("cold") + 1));
        }

        int why(long turned) {
            if ((turned & ~(long) mask(0, 1, 2)) != 0) {
                return 1;
            }
            if (Long.bitCount(turned) > get("hands")) {
                return 2;
            }
            return day == 9999 ? 3 : 0;
        }

        List<Integer> subsets(int of) {
            List<Integer> all = new ArrayList<>();
            for (int s = 0; s < 1 << shelf.size(); s++) {
                if ((s & ~of) == 0) {
                    all.add(s);
                }
            }
            return all;
        }

        String key() {
            StringBuilder b = new StringBuilder();
            for (Cask c : shelf) {
                b.append(c.kind).append(c.kind == 0 ? c.idle : 0).append(' ');
            }
            return b.toString();
        }
    }

    State now = new State();
    private byte[] tape = new byte[0];
    private int faultKind;
    private int faultPlace = -1;
    private final State[] images = new State[2];
    private final long[][] rows = new long[4][];
    private final int[] sorts = new int[4];

    int feed(int... five) {
        if (tape.length + 20 > 900) {
            return -5;
        }
        int old = tape.length;
        tape = Arrays.copyOf(tape, old + 20);
        for (int i = 0; i < 20; i++) {
            tape[old + i] = (byte) (five[i / 4] >> 8 * (3 - i % 4));
        }
        return tape.length;
    }

    int house(int n) {
        if (n < 0 || n > tape.length) {
            return -3;
        }
        String text = new String(tape, 0, n, java.nio.charset.StandardCharsets.ISO_8859_1);
        tape = new byte[0];
        ModelText read = new ModelText(text);
        faultKind = read.fault;
        faultPlace = read.place;
        if (read.fault != 0) {
            return -30 - read.fault;
        }
        now = read.state;
        return now.lines;
    }

    int fault(int what) {
        return what == 0 ? faultKind : what == 1 ? faultPlace : -1;
    }

    private boolean place(int p) {
        return p >= 0 && p < now.shelf.size();
    }

    private boolean cask(int p) {
        return place(p) && now.shelf.get(p).kind != 3;
    }

    int barrel(int p, int what) {
        if (!place(p) || what < 0 || what > 3) {
            return -2;
        }
        Cask c = now.shelf.get(p);
        return new int[] {c.kind, c.salt, c.ripe, c.idle}[what];
    }

    int swap(int p, int q) {
        if (!place(p) || !place(q)) {
            return -2;
        }
        java.util.Collections.swap(now.shelf, p, q);
        return 0;
    }

    int sell(int p) {
        if (!place(p)) {
            return -2;
        }
        Cask c = now.shelf.get(p);
        if (c.kind != 0 || c.ripe < 100) {
            return -5;
        }
        now.shelf.set(p, new Cask(3, 0, 0, 0));
        return c.salt;
    }

    int put(int p, int salt) {
        if (!place(p)) {
            return -2;
        }
        if (now.shelf.get(p).kind != 3) {
            return -5;
        }
        if (salt < 1 || salt > 9) {
            return -3;
        }
        now.shelf.set(p, new Cask(0, salt, 0, 0));
        return 0;
    }

    int day(int set) {
        int why = now.why(set);
        return why == 0 ? now.pass(set) : -2 - why;
    }

    private int row(int row) {
        if (row < 0 || row > 3) {
            return -2;
        }
        return rows[row] == null ? -6 : 0;
    }

    int judge(int row, int what) {
        if (what < 0 || what > 3 || row(row) == -2) {
            return -2;
        }
        if (row(row) != 0) {
            return -6;
        }
        State s = now.twin();
        int turns = 0;
        for (int i = 0; i < rows[row].length; i++) {
            long set = rows[row][i];
            if (s.why(set) != 0) {
                return new int[] {i, s.why(set), s.mask(1), turns}[what];
            }
            s.pass((int) set);
            turns += Long.bitCount(set);
        }
        return new int[] {-1, 0, s.mask(1), turns}[what];
    }

    int perform(int row) {
        if (row(row) != 0) {
            return row(row);
        }
        for (int i = 0; i < rows[row].length; i++) {
            if (now.why(rows[row][i]) != 0) {
                return i;
            }
            now.pass((int) rows[row][i]);
        }
        return rows[row].length;
    }

    int week(int seed, int days) {
        if (days < 1 || days > 30) {
            return -3;
        }
        if (now.day + days > 9999) {
            return -5;
        }
        int went = 0;
        int x = seed;
        for (int d = 0; d < days; d++) {
            int set = 0;
            for (int p = 0; p < now.shelf.size(); p++) {
                if (!cask(p) || Integer.bitCount(set) == now.get("hands")) {
                    continue;
                }
                x = x * 1103515245 + 12345;
                set |= (x >>> 16 & 1) << p;
            }
            went += now.pass(set);
        }
        return went;
    }

    int leftAlone(int n) {
        if (n < 0 || n > 30) {
            return -3;
        }
        State s = now.twin();
        for (int i = 0; i < n; i++) {
            s.pass(0);
        }
        return s.mask(1);
    }

    int missed(int row, int bad) {
        if (row(row) != 0) {
            return row(row);
        }
        if (rows[row].length > 12) {
            return -4;
        }
        if (judge(row, 0) != -1) {
            return -5;
        }
        if (bad < 0 || bad >= 1 << now.shelf.size()) {
            return -3;
        }
        int days = 0;
        for (int skip = 0; skip < rows[row].length; skip++) {
            State s = now.twin();
            for (int i = 0; i < rows[row].length; i++) {
                s.pass(i == skip ? 0 : (int) rows[row][i]);
            }
            days |= s.mask(1) == bad ? 1 << skip : 0;
        }
        return days;
    }

    int leak(int p, int n) {
        if (!place(p)) {
            return -2;
        }
        if (n < 1 || n > 12) {
            return -3;
        }
        int more = 0;
        for (int i = 0; i < n && cask(p + i); i++) {
            Cask c = now.shelf.get(p + i);
            if (c.kind == 0 && c.salt < 9) {
                c.salt++;
                more++;
            }
        }
        return more;
    }

    int tone(int p) {
        if (!place(p)) {
            return -2;
        }
        return cask(p) ? now.tone(p, now.shelf.get(p).kind == 1) : -5;
    }

    int knock(int p) {
        return cask(p) ? now.heard(p, now.mask(1)) : -1000;
    }

    int heard(int p, int set) {
        return cask(p) && (set & ~now.mask(0, 1)) == 0 ? now.heard(p, set) : -1000;
    }

    private int knocks(int row) {
        if (row(row) != 0) {
            return row(row);
        }
        return rows[row].length == now.shelf.size() ? 0 : -7;
    }

    private List<Integer> fits(int row) {
        List<Integer> good = new ArrayList<>();
        for (int s : now.subsets(now.mask(0, 1))) {
            boolean fits = true;
            for (int p = 0; p < now.shelf.size(); p++) {
                long v = rows[row][p];
                fits &= v == 999 || cask(p) && now.heard(p, s) == v;
            }
            if (fits) {
                good.add(s);
            }
        }
        return good;
    }

    int fit(int row) {
        return knocks(row) != 0 ? knocks(row) : fits(row).size();
    }

    int fitting(int row, int k) {
        if (knocks(row) != 0) {
            return knocks(row);
        }
        List<Integer> good = fits(row);
        return k >= 0 && k < good.size() ? good.get(k) : -1;
    }

    int sure(int row, boolean bad) {
        if (knocks(row) != 0) {
            return knocks(row);
        }
        List<Integer> good = fits(row);
        int sure = good.isEmpty() ? 0 : now.mask(0, 1);
        for (int s : good) {
            sure &= bad ? s : ~s;
        }
        return sure;
    }

    /** Where to knock next, and how many are left by it. */
    private int[] best(int row) {
        List<Integer> good = fits(row);
        int[] best = {-1, -1};
        if (good.size() < 2) {
            return best;
        }
        for (int p = 0; p < now.shelf.size(); p++) {
            if (!cask(p) || rows[row][p] != 999) {
                continue;
            }
            int most = 0;
            for (List<Integer> part : parts(good, p)) {
                most = Math.max(most, part.size());
            }
            if (best[0] < 0 || most < best[1]) {
                best = new int[] {p, most};
            }
        }
        return best;
    }

    private List<List<Integer>> parts(List<Integer> sets, int p) {
        Map<Integer, List<Integer>> by = new TreeMap<>();
        for (int s : sets) {
            by.computeIfAbsent(now.heard(p, s), v -> new ArrayList<>()).add(s);
        }
        return new ArrayList<>(by.values());
    }

    int next(int row) {
        return knocks(row) != 0 ? knocks(row) : best(row)[0];
    }

    int worst(int row) {
        return knocks(row) != 0 ? knocks(row) : best(row)[1];
    }

    int ways(int p, int v) {
        if (!cask(p)) {
            return -2;
        }
        int n = 0;
        for (int s : now.subsets(now.mask(0, 1))) {
            n += now.heard(p, s) == v ? 1 : 0;
        }
        return n;
    }

    private List<Integer> voice(int set, int at) {
        List<Integer> v = new ArrayList<>();
        for (int p = 0; p < now.shelf.size(); p++) {
            if (cask(p) && (at & 1 << p) != 0) {
                v.add(now.heard(p, set));
            }
        }
        return v;
    }

    int alike(int set) {
        if ((set & ~now.mask(0, 1)) != 0) {
            return -3;
        }
        int n = 0;
        for (int s : now.subsets(now.mask(0, 1))) {
            n += voice(s, -1).equals(voice(set, -1)) ? 1 : 0;
        }
        return n;
    }

    int enough() {
        int fillable = now.mask(0, 1);
        if (Integer.bitCount(fillable) > 8) {
            return -4;
        }
        List<Integer> knocked = now.subsets(now.mask(0, 1, 2));
        knocked.sort((a, b) -> Integer.bitCount(a) != Integer.bitCount(b)
                ? Integer.bitCount(a) - Integer.bitCount(b) : a - b);
        for (int at : knocked) {
            Set<List<Integer>> voices = new HashSet<>();
            boolean good = true;
            for (int s : now.subsets(fillable)) {
                good = good && voices.add(voice(s, at));
            }
            if (good) {
                return at;
            }
        }
        return -1;
    }

    int needed(int row) {
        if (knocks(row) != 0) {
            return knocks(row);
        }
        List<Integer> good = fits(row);
        if (good.size() > 10) {
            return -4;
        }
        int n = good.isEmpty() ? 1000 : needed(good, new HashMap<>());
        return n >= 1000 ? -1 : n;
    }

    private int needed(List<Integer> sets, Map<List<Integer>, Integer> known) {
        if (sets.size() == 1) {
            return 0;
        }
        if (known.containsKey(sets)) {
            return known.get(sets);
        }
        int best = 1000;
        for (int p = 0; p < now.shelf.size(); p++) {
            if (!cask(p)) {
                continue;
            }
            List<List<Integer>> parts = parts(sets, p);
            int most = parts.size() == 1 ? 1000 : 0;
            if (parts.size() > 1) {
                for (List<Integer> part : parts) {
                    most = Math.max(most, 1 + needed(part, known));
                }
            }
            best = Math.min(best, most);
        }
        known.put(sets, best);
        return best;
    }

    /** Days by the rules of a day themselves, each set of barrels that hands can turn. */
    private int turns(State s, int days, Map<String, Integer> known) {
        if (days == 0) {
            return 0;
        }
        String key = days + ":" + s.key();
        if (known.containsKey(key)) {
            return known.get(key);
        }
        int best = 1000;
        for (int set : s.subsets(s.mask(0))) {
            State t = s.twin();
            t.day = 0;
            if (t.why(set) == 0 && t.pass(set) == 0) {
                best = Math.min(best, Integer.bitCount(set) + turns(t, days - 1, known));
            }
        }
        known.put(key, best);
        return best;
    }

    int kept(int d, int what) {
        if (what != 0 && (what < 10 || what > 17)) {
            return -2;
        }
        if (d < 1 || d > 8) {
            return -3;
        }
        if (Integer.bitCount(now.mask(0)) > 5) {
            return -4;
        }
        Map<String, Integer> known = new HashMap<>();
        int turns = turns(now, d, known);
        if (turns >= 1000) {
            return -1;
        }
        if (what == 0) {
            return turns;
        }
        State s = now.twin();
        for (int k = 0; k < d; k++) {
            for (int set : s.subsets(s.mask(0))) {
                State t = s.twin();
                t.day = 0;
                if (t.why(set) == 0 && t.pass(set) == 0
                        && turns(t, d - k - 1, known) + Integer.bitCount(set) == turns) {
                    if (k == what - 10) {
                        return set;
                    }
                    turns -= Integer.bitCount(set);
                    s = t;
                    break;
                }
            }
        }
        return -1;
    }

    int longest() {
        if (Integer.bitCount(now.mask(0)) > 5) {
            return -4;
        }
        Map<String, State> level = new HashMap<>();
        level.put(now.key(), now);
        for (int d = 0; d < 30; d++) {
            Map<String, State> after = new HashMap<>();
            for (State s : level.values()) {
                for (int set : s.subsets(s.mask(0))) {
                    State t = s.twin();
                    t.day = 0;
                    if (t.why(set) == 0 && t.pass(set) == 0) {
                        after.put(t.key(), t);
                    }
                }
            }
            if (after.isEmpty()) {
                return d;
            }
            level = after;
        }
        return 30;
    }

    int ripeIn(int p) {
        if (!place(p)) {
            return -2;
        }
        Cask c = now.shelf.get(p);
        if (c.kind != 0) {
            return -1;
        }
        int days = 0;
        for (int ripe = c.ripe; ripe < 100; ripe += 2 * c.salt) {
            days++;
        }
        return days;
    }

    int ripeBy(int d, int what) {
        if (what < 0 || what > 2) {
            return -2;
        }
        if (d < 1 || d > 60) {
            return -3;
        }
        int[] best = {-1, 0, 0};
        for (int set : now.subsets(now.mask(0))) {
            int turns = 0;
            boolean can = true;
            for (int p = 0; p < now.shelf.size(); p++) {
                if ((set & 1 << p) != 0) {
                    Cask c = now.shelf.get(p);
                    int t = 0;
                    while (c.ripe + (d + t) * c.salt < 100) {
                        t++;
                    }
                    can &= t <= d;
                    turns += t;
                }
            }
            int many = Integer.bitCount(set);
            if (can && turns <= d * now.get("hands")
                    && (many > best[0] || many == best[0] && turns < best[1])) {
                best = new int[] {many, turns, set};
            }
        }
        return best[what];
    }

    int orders(int row, int what) {
        if (row(row) == -2 || what != 0 && (what < 10 || what > 19)) {
            return -2;
        }
        if (row(row) != 0) {
            return -6;
        }
        if (rows[row].length > 10) {
            return -4;
        }
        for (long v : rows[row]) {
            if (v < 0) {
                return -3;
            }
        }
        int most = met(row, 0, 0, new HashMap<>());
        if (what == 0) {
            return most;
        }
        int used = 0;
        for (int i = 0; i < rows[row].length; i++) {
            int got = -1;
            for (int p = 0; p < now.shelf.size() && got < 0; p++) {
                if (serves(row, i, p, used) && 1 + met(row, i + 1, used | 1 << p, new HashMap<>()) == most) {
                    got = p;
                }
            }
            if (got >= 0) {
                used |= 1 << got;
                most--;
            }
            if (i == what - 10) {
                return got;
            }
        }
        return -1;
    }

    private boolean serves(int row, int order, int p, int used) {
        return (used & 1 << p) == 0 && ripeIn(p) >= 0 && ripeIn(p) <= rows[row][order];
    }

    private int met(int row, int order, int used, Map<Integer, Integer> known) {
        if (order == rows[row].length) {
            return 0;
        }
        int key = order << 12 | used;
        if (!known.containsKey(key)) {
            int best = met(row, order + 1, used, known);
            for (int p = 0; p < now.shelf.size(); p++) {
                if (serves(row, order, p, used)) {
                    best = Math.max(best, 1 + met(row, order + 1, used | 1 << p, known));
                }
            }
            known.put(key, best);
        }
        return known.get(key);
    }

    private int bestGap;
    private int[] bestWay;

    int apart(int what) {
        int places = now.shelf.size();
        if (what != 0 && (what < 10 || what > 9 + places)) {
            return -2;
        }
        if (Integer.bitCount(now.mask(0, 1, 2)) > 8) {
            return -4;
        }
        bestGap = -1;
        bestWay = null;
        lay(new int[places], 0, 0, 1000);
        if (what == 0) {
            return bestGap == 1000 ? -1 : bestGap;
        }
        return bestWay[what - 10];
    }

    private void lay(int[] way, int p, int used, int least) {
        if (p == way.length) {
            if (least > bestGap) {
                bestGap = least;
                bestWay = way.clone();
            }
            return;
        }
        if (!cask(p)) {
            way[p] = -1;
            lay(way, p + 1, used, least);
            return;
        }
        for (int q = 0; q < way.length; q++) {
            if (cask(q) && (used & 1 << q) == 0) {
                way[p] = q;
                int gap = p > 0 && way[p - 1] >= 0 ? Math.abs(tone(way[p - 1]) - tone(q)) : 1000;
                lay(way, p + 1, used | 1 << q, Math.min(least, gap));
            }
        }
    }

    int numbers(int row, int sort, int n) {
        if (row(row) == -2 || sort < 0 || sort > 3) {
            return -2;
        }
        if (n < 0 || n > 40) {
            return -3;
        }
        rows[row] = new long[n];
        sorts[row] = sort;
        return 0;
    }

    private long cut(int row, long v) {
        int off = 64 - (8 << sorts[row]);
        return v << off >> off;
    }

    long write(int row, int i, long v) {
        if (row(row) != 0) {
            return row(row);
        }
        if (i < 0 || i >= rows[row].length) {
            return -7;
        }
        return rows[row][i] = cut(row, v);
    }

    int copy(int set, int row) {
        if (row(row) != 0) {
            return row(row);
        }
        if (rows[row].length < now.shelf.size()) {
            return -7;
        }
        if (set < 0 || set >= 1 << now.shelf.size()) {
            return -3;
        }
        for (int p = 0; p < now.shelf.size(); p++) {
            rows[row][p] = cut(row, (set & 1 << p) != 0 && cask(p) ? knock(p) : 999);
        }
        return now.shelf.size();
    }

    int image(int i) {
        if (i < 0 || i > 1) {
            return -2;
        }
        images[i] = now.twin();
        return 0;
    }

    int restore(int i) {
        if (i < 0 || i > 1) {
            return -2;
        }
        if (images[i] == null) {
            return -5;
        }
        now = images[i].twin();
        return 0;
    }

    int count(int what) {
        int ripe = 0;
        for (Cask c : now.shelf) {
            ripe += c.ripe;
        }
        int[] all = {now.shelf.size(), Integer.bitCount(now.mask(0, 1, 2)), Integer.bitCount(now.mask(0)),
            now.mask(1), now.day, now.get("hands"), now.get("left"), now.get("cold"), tape.length, now.lines,
            now.get("low"), now.get("lie"), ripe};
        return what >= 0 && what < all.length ? all[what] : -1;
    }
}

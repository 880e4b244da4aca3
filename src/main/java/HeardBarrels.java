import java.util.Arrays;

/** Barrels on a shelf that are turned, knocked at, sold and laid anew; see shared/DOC.md. */
public final class HeardBarrels {
    public static final int NONE = -1;

    private static final int NO_SUCH = -2;
    private static final int WRONG_NUMBER = -3;
    private static final int TOO_MANY = -4;
    private static final int NOT_NOW = -5;
    private static final int ROW_MISSING = -6;
    private static final int NO_NUMBER = -7;
    private static final int TEXT_REFUSED = -30;
    private static final int UNHEARD = -1000;

    private static final int MOST_PLACES = 12;
    private static final int MOST_BYTES = 900;
    private static final int FEED_BYTES = 20;
    private static final int MOST_NUMBERS = 40;
    private static final int ROWS = 4;
    private static final int IMAGES = 2;
    private static final int LAST_DATE = 9999;
    private static final int MOST_RIPE = 100;
    private static final int MOST_SALT = 9;
    private static final int NOBODY_KNOCKED = 999;
    /** Where the numbers of the parts of an answer begin, in the calls that have a "10 + k". */
    private static final int PARTS = 10;

    private static final int SOUND = 0;
    private static final int BAD = 1;
    private static final int STONES = 2;
    private static final int GAP = 3;

    private final byte[] tape = new byte[MOST_BYTES];
    private int tapeBytes;
    private final Shelf shelf = new Shelf();
    /** A second shelf for what is only tried or read, so that no call makes one. */
    private final Shelf trial = new Shelf();
    private final Shelf[] pictures = new Shelf[IMAGES];
    private final boolean[] pictured = new boolean[IMAGES];
    private final Row[] rows = new Row[ROWS];
    private final Reader reader;
    private final Ears ears;
    private final Keeper keeper;
    private final Buyers buyers;
    private final Layer layer;

    public HeardBarrels() {
        for (int i = 0; i < IMAGES; i++) {
            pictures[i] = new Shelf();
        }
        for (int i = 0; i < ROWS; i++) {
            rows[i] = new Row();
        }
        reader = new Reader(tape, trial);
        ears = new Ears(shelf);
        keeper = new Keeper(shelf);
        buyers = new Buyers(shelf);
        layer = new Layer(shelf);
    }

    // ---- the house

    public int feed(int a, int b, int c, int d, int e) {
        if (tapeBytes > MOST_BYTES - FEED_BYTES) {
            return NOT_NOW;
        }
        append(a);
        append(b);
        append(c);
        append(d);
        append(e);
        return tapeBytes;
    }

    private void append(int four) {
        for (int shift = 24; shift >= 0 && tapeBytes < MOST_BYTES; shift -= 8) {
            tape[tapeBytes] = (byte) (four >>> shift);
            tapeBytes++;
        }
    }

    public int house(int n) {
        if (n < 0 || n > tapeBytes) {
            return WRONG_NUMBER;
        }
        tapeBytes = 0;
        if (!reader.reads(n)) {
            return TEXT_REFUSED - reader.faultKind;
        }
        shelf.take(trial);
        return shelf.lines;
    }

    public int fault(int what) {
        switch (what) {
            case 0:
                return reader.faultKind;
            case 1:
                return reader.faultPlace;
            default:
                return NONE;
        }
    }

    public int barrel(int p, int what) {
        if (!shelf.has(p)) {
            return NO_SUCH;
        }
        switch (what) {
            case 0:
                return shelf.kind[p];
            case 1:
                return shelf.salt[p];
            case 2:
                return shelf.ripe[p];
            case 3:
                return shelf.idle[p];
            default:
                return NO_SUCH;
        }
    }

    public int swap(int p, int q) {
        if (!shelf.has(p) || !shelf.has(q)) {
            return NO_SUCH;
        }
        shelf.exchange(p, q);
        return 0;
    }

    public int sell(int p) {
        if (!shelf.has(p)) {
            return NO_SUCH;
        }
        if (shelf.kind[p] != SOUND || shelf.ripe[p] != MOST_RIPE) {
            return NOT_NOW;
        }
        int salt = shelf.salt[p];
        shelf.lay(p, GAP, 0, 0, 0);
        return salt;
    }

    public int put(int p, int salt) {
        if (!shelf.has(p)) {
            return NO_SUCH;
        }
        if (shelf.kind[p] != GAP) {
            return NOT_NOW;
        }
        if (salt < 1 || salt > MOST_SALT) {
            return WRONG_NUMBER;
        }
        shelf.lay(p, SOUND, salt, 0, 0);
        return 0;
    }

    // ---- days

    public int day(int set) {
        switch (shelf.whyNot(set)) {
            case 0:
                return shelf.pass(set);
            case 1:
                return WRONG_NUMBER;
            case 2:
                return TOO_MANY;
            default:
                return NOT_NOW;
        }
    }

    public int judge(int row, int what) {
        if (!isRow(row) || what < 0 || what > 3) {
            return NO_SUCH;
        }
        Row told = rows[row];
        if (told.isMissing()) {
            return ROW_MISSING;
        }
        trial.take(shelf);
        int done = passTold(trial, told);
        boolean all = done == told.size;
        switch (what) {
            case 0:
                return all ? NONE : done;
            case 1:
                return all ? 0 : trial.whyNot(told.at(done));
            case 2:
                return trial.placesOf(BAD);
            default:
                return turnsOfFirst(told, done);
        }
    }

    public int perform(int row) {
        int refusal = rowRefusal(row);
        return refusal != 0 ? refusal : passTold(shelf, rows[row]);
    }

    /** Lets the told days pass as far as they can be: how many could. */
    private static int passTold(Shelf on, Row told) {
        int done = 0;
        while (done < told.size && on.whyNot(told.at(done)) == 0) {
            on.pass((int) told.at(done));
            done++;
        }
        return done;
    }

    private static int turnsOfFirst(Row told, int days) {
        int turns = 0;
        for (int i = 0; i < days; i++) {
            turns += Long.bitCount(told.at(i));
        }
        return turns;
    }

    public int week(int seed, int days) {
        if (days < 1 || days > 30) {
            return WRONG_NUMBER;
        }
        if (shelf.date + days > LAST_DATE) {
            return NOT_NOW;
        }
        int x = seed;
        int spoilt = 0;
        for (int i = 0; i < days; i++) {
            int set = 0;
            int hands = shelf.hands;
            for (int p = 0; p < shelf.places && hands > 0; p++) {
                if (shelf.kind[p] == GAP) {
                    continue;
                }
                x = 1103515245 * x + 12345;
                if ((x >>> 16) % 2 == 1) {
                    set |= 1 << p;
                    hands--;
                }
            }
            spoilt += shelf.pass(set);
        }
        return spoilt;
    }

    public int leftAlone(int n) {
        if (n < 0 || n > 30) {
            return WRONG_NUMBER;
        }
        trial.take(shelf);
        for (int i = 0; i < n; i++) {
            trial.pass(0);
        }
        return trial.placesOf(BAD);
    }

    public int missed(int row, int bad) {
        int refusal = rowRefusal(row);
        if (refusal != 0) {
            return refusal;
        }
        Row told = rows[row];
        if (told.size > 12) {
            return TOO_MANY;
        }
        trial.take(shelf);
        if (passTold(trial, told) < told.size) {
            return NOT_NOW;
        }
        if (!shelf.isSetOfPlaces(bad)) {
            return WRONG_NUMBER;
        }
        int days = 0;
        for (int i = 0; i < told.size; i++) {
            if (badWithout(told, i) == bad) {
                days |= 1 << i;
            }
        }
        return days;
    }

    /** Who is bad behind the told days, if none is turned on the one that is left out. */
    private int badWithout(Row told, int leftOut) {
        trial.take(shelf);
        for (int i = 0; i < told.size; i++) {
            trial.pass(i == leftOut ? 0 : (int) told.at(i));
        }
        return trial.placesOf(BAD);
    }

    public int leak(int p, int n) {
        if (!shelf.has(p)) {
            return NO_SUCH;
        }
        if (n < 1 || n > 12) {
            return WRONG_NUMBER;
        }
        int salted = 0;
        for (int q = p; q < p + n && shelf.has(q) && shelf.kind[q] != GAP; q++) {
            if (shelf.kind[q] == SOUND && shelf.salt[q] < MOST_SALT) {
                shelf.salt[q]++;
                salted++;
            }
        }
        return salted;
    }

    // ---- knocks

    public int tone(int p) {
        if (!shelf.has(p)) {
            return NO_SUCH;
        }
        return shelf.kind[p] == GAP ? NOT_NOW : shelf.toneNow(p);
    }

    public int knock(int p) {
        return shelf.hasBarrel(p) ? shelf.sound(p, shelf.placesOf(BAD)) : UNHEARD;
    }

    public int heard(int p, int set) {
        if (!shelf.hasBarrel(p) || !shelf.mayBeBad(set)) {
            return UNHEARD;
        }
        return shelf.sound(p, set);
    }

    public int fit(int row) {
        int refusal = knocksRefusal(row);
        return refusal != 0 ? refusal : ears.howManyFit(rows[row]);
    }

    public int fitting(int row, int k) {
        int refusal = knocksRefusal(row);
        return refusal != 0 ? refusal : ears.fitAt(rows[row], k);
    }

    public int sure(int row, boolean bad) {
        int refusal = knocksRefusal(row);
        return refusal != 0 ? refusal : ears.certain(rows[row], bad);
    }

    public int next(int row) {
        int refusal = knocksRefusal(row);
        return refusal != 0 ? refusal : ears.bestKnock(rows[row]);
    }

    public int worst(int row) {
        int refusal = knocksRefusal(row);
        if (refusal != 0) {
            return refusal;
        }
        return ears.bestKnock(rows[row]) == NONE ? NONE : ears.leftByBest;
    }

    public int ways(int p, int v) {
        return shelf.hasBarrel(p) ? ears.howManyLet(p, v) : NO_SUCH;
    }

    public int alike(int set) {
        return shelf.mayBeBad(set) ? ears.howManyLike(set) : WRONG_NUMBER;
    }

    public int enough() {
        return ears.fewestPlaces();
    }

    public int needed(int row) {
        int refusal = knocksRefusal(row);
        return refusal != 0 ? refusal : ears.knocksMore(rows[row]);
    }

    // ---- kept

    public int kept(int d, int what) {
        if (what != 0 && (what < PARTS || what > PARTS + 7)) {
            return NO_SUCH;
        }
        if (d < 1 || d > 8) {
            return WRONG_NUMBER;
        }
        if (!keeper.looks()) {
            return TOO_MANY;
        }
        return what == 0 ? keeper.fewestTurns(d) : keeper.turnedOn(d, what - PARTS);
    }

    public int longest() {
        return keeper.looks() ? keeper.mostDays() : TOO_MANY;
    }

    public int ripeIn(int p) {
        return shelf.has(p) ? shelf.daysToRipe(p) : NO_SUCH;
    }

    public int ripeBy(int d, int what) {
        if (what < 0 || what > 2) {
            return NO_SUCH;
        }
        if (d < 1 || d > 60) {
            return WRONG_NUMBER;
        }
        int chosen = buyers.ripest(d);
        switch (what) {
            case 0:
                return Integer.bitCount(chosen);
            case 1:
                return buyers.turnsOfRipest;
            default:
                return chosen;
        }
    }

    public int orders(int row, int what) {
        if (!isRow(row) || (what != 0 && (what < PARTS || what > PARTS + 9))) {
            return NO_SUCH;
        }
        Row wanted = rows[row];
        if (wanted.isMissing()) {
            return ROW_MISSING;
        }
        if (wanted.size > Buyers.MOST_ORDERS) {
            return TOO_MANY;
        }
        for (int i = 0; i < wanted.size; i++) {
            if (wanted.at(i) < 0) {
                return WRONG_NUMBER;
            }
        }
        return what == 0 ? buyers.howManyMet(wanted) : buyers.placeFor(wanted, what - PARTS);
    }

    public int apart(int what) {
        if (what != 0 && (what < PARTS || what >= PARTS + shelf.places)) {
            return NO_SUCH;
        }
        if (!layer.looks()) {
            return TOO_MANY;
        }
        return what == 0 ? layer.leastDifference() : layer.comesTo(what - PARTS);
    }

    // ---- rows of numbers, images

    public int numbers(int row, int sort, int n) {
        if (!isRow(row) || sort < 0 || sort > 3) {
            return NO_SUCH;
        }
        if (n < 0 || n > MOST_NUMBERS) {
            return WRONG_NUMBER;
        }
        rows[row].become(sort, n);
        return 0;
    }

    public long write(int row, int i, long v) {
        int refusal = rowRefusal(row);
        if (refusal != 0) {
            return refusal;
        }
        if (i < 0 || i >= rows[row].size) {
            return NO_NUMBER;
        }
        rows[row].keep(i, v);
        return rows[row].at(i);
    }

    public int copy(int set, int row) {
        int refusal = rowRefusal(row);
        if (refusal != 0) {
            return refusal;
        }
        Row into = rows[row];
        if (into.size < shelf.places) {
            return NO_NUMBER;
        }
        if (!shelf.isSetOfPlaces(set)) {
            return WRONG_NUMBER;
        }
        int bad = shelf.placesOf(BAD);
        int knocked = set & shelf.barrelPlaces();
        for (int p = 0; p < shelf.places; p++) {
            into.keep(p, (knocked >> p & 1) != 0 ? shelf.sound(p, bad) : NOBODY_KNOCKED);
        }
        return shelf.places;
    }

    public int image(int i) {
        if (i < 0 || i >= IMAGES) {
            return NO_SUCH;
        }
        pictures[i].take(shelf);
        pictured[i] = true;
        return 0;
    }

    public int restore(int i) {
        if (i < 0 || i >= IMAGES) {
            return NO_SUCH;
        }
        if (!pictured[i]) {
            return NOT_NOW;
        }
        shelf.take(pictures[i]);
        return 0;
    }

    public int count(int what) {
        switch (what) {
            case 0:
                return shelf.places;
            case 1:
                return Integer.bitCount(shelf.barrelPlaces());
            case 2:
                return Integer.bitCount(shelf.placesOf(SOUND));
            case 3:
                return shelf.placesOf(BAD);
            case 4:
                return shelf.date;
            case 5:
                return shelf.hands;
            case 6:
                return shelf.left;
            case 7:
                return shelf.cold;
            case 8:
                return tapeBytes;
            case 9:
                return shelf.lines;
            case 10:
                return shelf.low;
            case 11:
                return shelf.lie;
            case 12:
                return shelf.ripeOfAll();
            default:
                return NONE;
        }
    }

    private static boolean isRow(int row) {
        return row >= 0 && row < ROWS;
    }

    private int rowRefusal(int row) {
        if (!isRow(row)) {
            return NO_SUCH;
        }
        return rows[row].isMissing() ? ROW_MISSING : 0;
    }

    private int knocksRefusal(int row) {
        int refusal = rowRefusal(row);
        if (refusal != 0) {
            return refusal;
        }
        return rows[row].size == shelf.places ? 0 : NO_NUMBER;
    }

    /** All that an image holds: the places with what they have, what the lines set, the date. */
    private static final class Shelf {
        private static final int MOST_IDLE = 99;
        private static final int STONES_TONE = 20;

        final int[] kind = new int[MOST_PLACES];
        final int[] salt = new int[MOST_PLACES];
        final int[] ripe = new int[MOST_PLACES];
        final int[] idle = new int[MOST_PLACES];
        int places;
        int low;
        int lie;
        int hands;
        int left;
        int cold;
        int lines;
        int date;

        Shelf() {
            clear();
        }

        void clear() {
            places = 0;
            low = 15;
            lie = 4;
            hands = 12;
            left = 3;
            cold = 0;
            lines = 0;
            date = 0;
        }

        void take(Shelf other) {
            for (int p = 0; p < MOST_PLACES; p++) {
                lay(p, other.kind[p], other.salt[p], other.ripe[p], other.idle[p]);
            }
            places = other.places;
            low = other.low;
            lie = other.lie;
            hands = other.hands;
            left = other.left;
            cold = other.cold;
            lines = other.lines;
            date = other.date;
        }

        void lay(int p, int newKind, int newSalt, int newRipe, int newIdle) {
            if (p < 0 || p >= MOST_PLACES) {
                return;
            }
            kind[p] = newKind;
            salt[p] = newSalt;
            ripe[p] = newRipe;
            idle[p] = newIdle;
        }

        void exchange(int p, int q) {
            if (!has(p) || !has(q)) {
                return;
            }
            int oldKind = kind[p];
            int oldSalt = salt[p];
            int oldRipe = ripe[p];
            int oldIdle = idle[p];
            lay(p, kind[q], salt[q], ripe[q], idle[q]);
            lay(q, oldKind, oldSalt, oldRipe, oldIdle);
        }

        boolean has(int p) {
            return p >= 0 && p < places;
        }

        boolean hasBarrel(int p) {
            return has(p) && kind[p] != GAP;
        }

        boolean isGap(int p) {
            return has(p) && kind[p] == GAP;
        }

        boolean isSetOfPlaces(int set) {
            return (set & ~((1 << places) - 1)) == 0;
        }

        int placesOf(int wanted) {
            int set = 0;
            for (int p = 0; p < places; p++) {
                if (kind[p] == wanted) {
                    set |= 1 << p;
                }
            }
            return set;
        }

        int barrelPlaces() {
            return ((1 << places) - 1) & ~placesOf(GAP);
        }

        int fillablePlaces() {
            return barrelPlaces() & ~placesOf(STONES);
        }

        boolean mayBeBad(int set) {
            return (set & ~fillablePlaces()) == 0;
        }

        int ripeOfAll() {
            int sum = 0;
            for (int p = 0; p < places; p++) {
                sum += ripe[p];
            }
            return sum;
        }

        /** Why a day with these turns can't be: 0 it can, 1 others than barrels, 2 hands, 3 the date. */
        int whyNot(long set) {
            if ((set & ~(long) barrelPlaces()) != 0) {
                return 1;
            }
            if (Long.bitCount(set) > hands) {
                return 2;
            }
            return date >= LAST_DATE ? 3 : 0;
        }

        /** One day passes on which a set is turned: how many went bad. */
        int pass(int set) {
            int badBefore = placesOf(BAD);
            int spoilt = 0;
            for (int p = 0; p < places; p++) {
                if (kind[p] == GAP) {
                    continue;
                }
                boolean turned = (set >> p & 1) != 0;
                boolean isSound = kind[p] == SOUND;
                int more = isSound && (beside(p) & badBefore) != 0 ? 2 : 1;
                idle[p] = turned ? 0 : Math.min(MOST_IDLE, idle[p] + more);
                if (isSound) {
                    ripe[p] = Math.min(MOST_RIPE, ripe[p] + (turned ? 2 : 1) * salt[p]);
                    if (idle[p] > left) {
                        kind[p] = BAD;
                        spoilt++;
                    }
                }
            }
            date++;
            return spoilt;
        }

        static int beside(int p) {
            return 1 << p << 1 | 1 << p >> 1;
        }

        int toneNow(int p) {
            return hasBarrel(p) ? toneIf(p, kind[p] == BAD) : 0;
        }

        private int toneIf(int p, boolean bad) {
            if (kind[p] == STONES) {
                return STONES_TONE;
            }
            return 120 - ripe[p] / 2 + salt[p] - (bad ? low : 0);
        }

        /** What is heard at a place with a barrel, if just a set is bad. */
        int sound(int p, int bad) {
            if (!hasBarrel(p)) {
                return UNHEARD;
            }
            int loud = toneIf(p, (bad >> p & 1) != 0) - lie * Integer.bitCount(bad & beside(p));
            loud += (isGap(p - 1) ? 1 : 0) + (isGap(p + 1) ? 1 : 0);
            return Math.floorDiv(loud, Math.max(1, cold + 1));
        }

        int daysToRipe(int p) {
            if (!has(p) || kind[p] != SOUND || salt[p] < 1) {
                return NONE;
            }
            int gain = 2 * salt[p];
            return (MOST_RIPE - ripe[p] + gain - 1) / gain;
        }

        /** How many turns a sound barrel needs to be ripe behind so many days (maybe more than days). */
        int turnsToRipe(int p, int days) {
            if (!has(p) || salt[p] < 1) {
                return days + 1;
            }
            int lacks = MOST_RIPE - ripe[p] - days * salt[p];
            return lacks <= 0 ? 0 : (lacks + salt[p] - 1) / salt[p];
        }
    }

    /** A row of numbers; its cells are made once, for the longest row that can be. */
    private static final class Row {
        private final long[] cells = new long[MOST_NUMBERS];
        private int sortOf;
        int size = NONE;

        boolean isMissing() {
            return size < 0;
        }

        void become(int sort, int n) {
            if (n < 0 || n > MOST_NUMBERS) {
                return;
            }
            sortOf = sort;
            size = n;
            Arrays.fill(cells, 0L);
        }

        long at(int i) {
            return i >= 0 && i < size ? cells[i] : 0;
        }

        void keep(int i, long v) {
            if (i < 0 || i >= size) {
                return;
            }
            switch (sortOf) {
                case 0:
                    cells[i] = (byte) v;
                    break;
                case 1:
                    cells[i] = (short) v;
                    break;
                case 2:
                    cells[i] = (int) v;
                    break;
                default:
                    cells[i] = v;
                    break;
            }
        }
    }

    /** Reads the text of a house, token by token, so that the first fault along it is found first. */
    private static final class Reader {
        private static final int END = 0;
        private static final int WORD = 1;
        private static final int NUMBER = 2;
        private static final int SEMICOLON = 3;
        private static final int STRANGE = 4;

        private static final int NO_TOKEN = 1;
        private static final int NOT_THERE = 2;
        private static final int OUT_OF_BOUNDS = 3;
        private static final int ONE_PLACE_MORE = 4;

        private static final int LOW = 0;
        private static final int LIE = 1;
        private static final int HANDS = 2;
        private static final int LEFT = 3;
        private static final int COLD = 4;
        private static final int BARREL_WORD = 5;
        private static final int GAP_WORD = 6;
        private static final int RIPE_WORD = 7;
        private static final int IDLE_WORD = 8;
        private static final int BAD_WORD = 9;
        private static final int STONES_WORD = 10;
        /** Bounds of what the words LOW to COLD set. */
        private static final int[] LEAST = {1, 0, 1, 1, 0};
        private static final int[] MOST = {40, 20, 12, 6, 9};

        private final byte[] text;
        private final Shelf into;
        private int length;
        private int at;
        private int token;
        private int tokenPlace;
        /** Of a NUMBER its value. */
        private int value;
        int faultKind;
        int faultPlace = NONE;

        Reader(byte[] text, Shelf into) {
            this.text = text;
            this.into = into;
        }

        /** Reads the first n bytes as a house: whether there is no fault. */
        boolean reads(int n) {
            length = Math.min(n, text.length);
            at = 0;
            faultKind = 0;
            faultPlace = NONE;
            into.clear();
            step();
            for (int i = 0; i <= length && token != END; i++) {
                if (!readsLine()) {
                    return false;
                }
                into.lines++;
            }
            return true;
        }

        private boolean readsLine() {
            int word = firstWord();
            if (word == NONE) {
                return refuses(NOT_THERE);
            }
            if (word >= BARREL_WORD && into.places >= MOST_PLACES) {
                return refuses(ONE_PLACE_MORE);
            }
            step();
            boolean good = word == BARREL_WORD ? readsBarrel()
                    : word == GAP_WORD ? addsGap() : readsSetting(word);
            if (!good) {
                return false;
            }
            if (token != SEMICOLON) {
                return refuses(NOT_THERE);
            }
            step();
            return true;
        }

        /** The word here with which a line begins; NONE: no such one. */
        private int firstWord() {
            for (int word = LOW; word <= GAP_WORD; word++) {
                if (isWord(word)) {
                    return word;
                }
            }
            return NONE;
        }

        private boolean addsGap() {
            into.lay(into.places, GAP, 0, 0, 0);
            into.places++;
            return true;
        }

        private boolean readsBarrel() {
            int salt = numberWithin(1, MOST_SALT);
            if (salt < 0) {
                return false;
            }
            int ripe = passes(RIPE_WORD) ? numberWithin(0, MOST_RIPE) : 0;
            if (ripe < 0) {
                return false;
            }
            int idle = passes(IDLE_WORD) ? numberWithin(0, 9) : 0;
            if (idle < 0) {
                return false;
            }
            int kind = passes(BAD_WORD) ? BAD : passes(STONES_WORD) ? STONES : SOUND;
            into.lay(into.places, kind, salt, ripe, idle);
            into.places++;
            return true;
        }

        private boolean readsSetting(int word) {
            if (word < 0 || word >= LEAST.length) {
                return refuses(NOT_THERE);
            }
            int number = numberWithin(LEAST[word], MOST[word]);
            switch (word) {
                case LOW:
                    into.low = number;
                    break;
                case LIE:
                    into.lie = number;
                    break;
                case HANDS:
                    into.hands = number;
                    break;
                case LEFT:
                    into.left = number;
                    break;
                default:
                    into.cold = number;
                    break;
            }
            return number >= 0;
        }

        /** Steps over a word, if it stands here: whether it did. */
        private boolean passes(int word) {
            if (!isWord(word)) {
                return false;
            }
            step();
            return true;
        }

        /** The number that stands here; NONE: a fault. */
        private int numberWithin(int least, int most) {
            int number = value;
            if (token != NUMBER) {
                refuses(NOT_THERE);
                return NONE;
            }
            if (number < least || number > most) {
                refuses(OUT_OF_BOUNDS);
                return NONE;
            }
            step();
            return number;
        }

        private boolean refuses(int fault) {
            faultKind = token == STRANGE ? NO_TOKEN : fault;
            faultPlace = tokenPlace;
            return false;
        }

        private void step() {
            while (at < length && (text[at] == 10 || text[at] == 32)) {
                at++;
            }
            tokenPlace = at;
            if (at >= length) {
                token = END;
            } else if (isLetter(text[at])) {
                token = WORD;
                stepOverWord();
            } else if (isDigit(text[at])) {
                stepOverDigits();
            } else {
                token = text[at] == ';' ? SEMICOLON : STRANGE;
                at++;
            }
        }

        private void stepOverWord() {
            while (at < length && isLetter(text[at])) {
                at++;
            }
        }

        private void stepOverDigits() {
            int number = 0;
            while (at < length && isDigit(text[at])) {
                number = Math.min(1000, number * 10 + text[at] - '0');
                at++;
            }
            token = at - tokenPlace > 3 ? STRANGE : NUMBER;
            value = number;
        }

        private boolean isWord(int word) {
            String letters = spelling(word);
            if (token != WORD || at - tokenPlace != letters.length()) {
                return false;
            }
            for (int i = 0; i < letters.length(); i++) {
                if (text[tokenPlace + i] != letters.charAt(i)) {
                    return false;
                }
            }
            return true;
        }

        private static String spelling(int word) {
            switch (word) {
                case LOW:
                    return "low";
                case LIE:
                    return "lie";
                case HANDS:
                    return "hands";
                case LEFT:
                    return "left";
                case COLD:
                    return "cold";
                case BARREL_WORD:
                    return "barrel";
                case GAP_WORD:
                    return "gap";
                case RIPE_WORD:
                    return "ripe";
                case IDLE_WORD:
                    return "idle";
                case BAD_WORD:
                    return "bad";
                default:
                    return "stones";
            }
        }

        private static boolean isLetter(int sign) {
            return sign >= 'a' && sign <= 'z';
        }

        private static boolean isDigit(int sign) {
            return sign >= '0' && sign <= '9';
        }
    }

    /**
     * Who can be bad by what was heard. What is heard at a place depends on who is bad of three alone
     * (the one before, its own, the one behind: bits 0, 1, 2), so eight tones a place tell all.
     */
    private static final class Ears {
        private static final int TRIPLES = 8;
        private static final int MOST_FITS = 10;
        private static final int MOST_FILLABLE = 8;
        private static final int NEVER = 99;

        private final Shelf shelf;
        private final int[] tones = new int[MOST_PLACES * TRIPLES];
        /** Of each place the triples (bits) that let be heard what was heard there. */
        private final int[] allowed = new int[MOST_PLACES];
        private final int[] tally = new int[MOST_PLACES * TRIPLES];
        private final int[] fits = new int[MOST_FITS];
        private final int[] likeFits = new int[MOST_PLACES * MOST_FITS];
        private final int[] knocksFor = new int[1 << MOST_FITS];
        private final long[] voices = new long[1 << MOST_FILLABLE];
        private final boolean[] clash = new boolean[1 << MOST_PLACES];
        private int fillable;
        private int sets;
        int leftByBest;

        Ears(Shelf shelf) {
            this.shelf = shelf;
        }

        private void listen() {
            fillable = shelf.fillablePlaces();
            sets = 1 << Integer.bitCount(fillable);
            for (int p = 0; p < shelf.places; p++) {
                for (int triple = 0; triple < TRIPLES; triple++) {
                    tones[p * TRIPLES + triple] = shelf.sound(p, triple << p >> 1);
                }
            }
        }

        private static int tripleOf(int set, int p) {
            return set << 1 >> p & 7;
        }

        private int toneBy(int p, int set) {
            return tones[p * TRIPLES + tripleOf(set, p)];
        }

        /** The set of fillable places that comes behind one, the least first. */
        private int following(int set) {
            return set - fillable & fillable;
        }

        private void allow(int p, long tone) {
            int good = 0;
            for (int triple = 0; triple < TRIPLES; triple++) {
                if (tones[p * TRIPLES + triple] == tone) {
                    good |= 1 << triple;
                }
            }
            allowed[p] = good;
        }

        private void hear(Row knocks) {
            listen();
            for (int p = 0; p < shelf.places; p++) {
                long tone = knocks.at(p);
                if (tone == NOBODY_KNOCKED) {
                    allowed[p] = (1 << TRIPLES) - 1;
                } else if (shelf.kind[p] == GAP) {
                    allowed[p] = 0;
                } else {
                    allow(p, tone);
                }
            }
        }

        private boolean isAllowed(int set) {
            for (int p = 0; p < shelf.places; p++) {
                if ((allowed[p] >> tripleOf(set, p) & 1) == 0) {
                    return false;
                }
            }
            return true;
        }

        private int howManyAllowed() {
            int found = 0;
            int set = 0;
            for (int i = 0; i < sets; i++) {
                if (isAllowed(set)) {
                    found++;
                }
                set = following(set);
            }
            return found;
        }

        int howManyFit(Row knocks) {
            hear(knocks);
            return howManyAllowed();
        }

        int fitAt(Row knocks, int k) {
            hear(knocks);
            int before = 0;
            int set = 0;
            for (int i = 0; i < sets; i++) {
                if (isAllowed(set)) {
                    if (before == k) {
                        return set;
                    }
                    before++;
                }
                set = following(set);
            }
            return NONE;
        }

        int certain(Row knocks, boolean bad) {
            hear(knocks);
            int inAll = fillable;
            int inNone = fillable;
            boolean any = false;
            int set = 0;
            for (int i = 0; i < sets; i++) {
                if (isAllowed(set)) {
                    any = true;
                    inAll &= set;
                    inNone &= ~set;
                }
                set = following(set);
            }
            if (!any) {
                return 0;
            }
            return bad ? inAll : inNone;
        }

        /** Where to knock next (NONE); how many are left at worst by that stands in leftByBest. */
        int bestKnock(Row knocks) {
            hear(knocks);
            if (tallyFits() < 2) {
                return NONE;
            }
            int best = NONE;
            for (int p = 0; p < shelf.places; p++) {
                if (!shelf.hasBarrel(p) || knocks.at(p) != NOBODY_KNOCKED) {
                    continue;
                }
                int most = mostOfOneTone(p);
                if (best == NONE || most < leftByBest) {
                    best = p;
                    leftByBest = most;
                }
            }
            return best;
        }

        /** Counts, for each place, how many that fit have each triple there: how many fit. */
        private int tallyFits() {
            Arrays.fill(tally, 0);
            int found = 0;
            int set = 0;
            for (int i = 0; i < sets; i++) {
                if (isAllowed(set)) {
                    found++;
                    for (int p = 0; p < shelf.places; p++) {
                        tally[p * TRIPLES + tripleOf(set, p)]++;
                    }
                }
                set = following(set);
            }
            return found;
        }

        private int mostOfOneTone(int p) {
            int most = 0;
            for (int one = p * TRIPLES; one < (p + 1) * TRIPLES; one++) {
                int sum = 0;
                for (int other = p * TRIPLES; other < (p + 1) * TRIPLES; other++) {
                    if (tones[other] == tones[one]) {
                        sum += tally[other];
                    }
                }
                most = Math.max(most, sum);
            }
            return most;
        }

        int howManyLet(int p, int tone) {
            listen();
            int found = 0;
            int set = 0;
            for (int i = 0; i < sets; i++) {
                if (toneBy(p, set) == tone) {
                    found++;
                }
                set = following(set);
            }
            return found;
        }

        int howManyLike(int like) {
            listen();
            for (int p = 0; p < shelf.places; p++) {
                allow(p, toneBy(p, like));
            }
            return howManyAllowed();
        }

        int knocksMore(Row knocks) {
            hear(knocks);
            int found = 0;
            int set = 0;
            for (int i = 0; i < sets; i++) {
                if (isAllowed(set)) {
                    if (found >= MOST_FITS) {
                        return TOO_MANY;
                    }
                    fits[found] = set;
                    found++;
                }
                set = following(set);
            }
            if (found == 0) {
                return NONE;
            }
            findLikeFits(found);
            int all = (1 << found) - 1;
            // Each part of a group is a lesser number than the group, so it is known before.
            for (int group = 1; group <= all; group++) {
                knocksFor[group] = knocksForGroup(group, found);
            }
            return knocksFor[all] >= NEVER ? NONE : knocksFor[all];
        }

        /** For each place and set that fits: those that fit and let the same be heard there (bits). */
        private void findLikeFits(int found) {
            for (int p = 0; p < shelf.places; p++) {
                for (int i = 0; i < found; i++) {
                    int like = 0;
                    for (int j = 0; j < found; j++) {
                        if (toneBy(p, fits[i]) == toneBy(p, fits[j])) {
                            like |= 1 << j;
                        }
                    }
                    likeFits[p * MOST_FITS + i] = like;
                }
            }
        }

        private int knocksForGroup(int group, int found) {
            if (Integer.bitCount(group) == 1) {
                return 0;
            }
            int fewest = NEVER;
            for (int p = 0; p < shelf.places; p++) {
                int most = 0;
                for (int i = 0; i < found && most < fewest; i++) {
                    if ((group >> i & 1) == 0) {
                        continue;
                    }
                    int part = group & likeFits[p * MOST_FITS + i];
                    most = part == group ? NEVER : Math.max(most, knocksFor[part]);
                }
                fewest = Math.min(fewest, most + 1);
            }
            return fewest;
        }

        int fewestPlaces() {
            if (Integer.bitCount(shelf.fillablePlaces()) > MOST_FILLABLE) {
                return TOO_MANY;
            }
            listen();
            int barrels = shelf.barrelPlaces();
            findVoices(barrels);
            findClashes();
            int best = NONE;
            int fewest = MOST_PLACES + 1;
            int top = 1 << shelf.places;
            for (int set = 0; set < top; set++) {
                boolean onBarrels = (set & ~barrels) == 0;
                if (onBarrels && !clash[barrels & ~set] && Integer.bitCount(set) < fewest) {
                    best = set;
                    fewest = Integer.bitCount(set);
                }
            }
            return best;
        }

        /** For each set, four bits a place with a barrel: the first triple that is heard as its own is. */
        private void findVoices(int barrels) {
            int set = 0;
            for (int i = 0; i < sets; i++) {
                long voice = 0;
                for (int p = 0; p < shelf.places; p++) {
                    if ((barrels >> p & 1) != 0) {
                        voice |= (long) firstLike(p, tripleOf(set, p)) << 4 * p;
                    }
                }
                voices[i] = voice;
                set = following(set);
            }
        }

        private int firstLike(int p, int triple) {
            int first = 0;
            while (first < triple && tones[p * TRIPLES + first] != tones[p * TRIPLES + triple]) {
                first++;
            }
            return first;
        }

        /** Marks the sets of places that hold all places where some two sets are heard otherwise. */
        private void findClashes() {
            int top = 1 << shelf.places;
            for (int set = 0; set < top; set++) {
                clash[set] = false;
            }
            for (int i = 0; i < sets; i++) {
                for (int j = 0; j < i; j++) {
                    clash[placesOfNibbles(voices[i] ^ voices[j])] = true;
                }
            }
            for (int bit = 1; bit < top; bit <<= 1) {
                for (int set = 0; set < top; set++) {
                    if ((set & bit) != 0 && clash[set ^ bit]) {
                        clash[set] = true;
                    }
                }
            }
        }

        /** Twelve groups of four bits, pressed to one bit each: whether the group isn't 0. */
        private static int placesOfNibbles(long nibbles) {
            long x = nibbles | nibbles >>> 1;
            x = (x | x >>> 2) & 0x111111111111L;
            x = (x | x >>> 3) & 0x030303030303L;
            x = (x | x >>> 6) & 0x000F000F000FL;
            return (int) (x | x >>> 12 | x >>> 24) & 0xFFF;
        }
    }

    /**
     * Keeps sound barrels sound. As none goes bad meanwhile, each has a fixed number of days that it
     * can wait behind a turn; a state is how many days each can still wait, three bits each.
     */
    private static final class Keeper {
        private static final int MOST_KEPT = 5;
        private static final int MOST_DAYS = 30;
        private static final int FIELD = 3;
        private static final int FIELD_BITS = 7;
        private static final int VALUE_BITS = 6;
        private static final int IMPOSSIBLE = 63;
        private static final int TABLE_BITS = 13;

        private final Shelf shelf;
        private final int[] spots = new int[MOST_KEPT];
        /** What was found for states, by hashing: 0, or 1 more than key and value side by side. */
        private final int[] table = new int[1 << TABLE_BITS];
        private int kept;
        private int hands;
        private int start;
        private int fresh;

        Keeper(Shelf shelf) {
            this.shelf = shelf;
        }

        /** Looks at the shelf: whether the sound barrels are not too many. */
        boolean looks() {
            kept = 0;
            start = 0;
            fresh = 0;
            hands = shelf.hands;
            int bad = shelf.placesOf(BAD);
            for (int p = 0; p < shelf.places; p++) {
                if (shelf.kind[p] != SOUND) {
                    continue;
                }
                if (kept >= MOST_KEPT) {
                    return false;
                }
                int pace = (Shelf.beside(p) & bad) != 0 ? 2 : 1;
                start |= Math.max(0, shelf.left - shelf.idle[p]) / pace << FIELD * kept;
                fresh |= shelf.left / pace << FIELD * kept;
                spots[kept] = p;
                kept++;
            }
            return true;
        }

        int fewestTurns(int days) {
            Arrays.fill(table, 0);
            int turns = fewest(capped(start, days), days);
            return turns >= IMPOSSIBLE ? NONE : turns;
        }

        /** The set of places that is turned on one of the days by the first of the best ways. */
        int turnedOn(int days, int which) {
            int turns = fewestTurns(days);
            if (turns == NONE || which >= days) {
                return NONE;
            }
            int state = capped(start, days);
            int chosen = 0;
            for (int i = 0; i <= which; i++) {
                int more = days - i - 1;
                chosen = leastChoice(state, more, turns);
                turns -= Integer.bitCount(chosen);
                state = capped(behind(state, chosen), more);
            }
            return toPlaces(chosen);
        }

        private int leastChoice(int state, int more, int turns) {
            for (int chosen = 0; chosen < 1 << kept; chosen++) {
                if (!canChoose(state, chosen, more + 1)) {
                    continue;
                }
                int rest = turns - Integer.bitCount(chosen);
                int next = capped(behind(state, chosen), more);
                if (leastPossible(next, more) <= rest && fewest(next, more) == rest) {
                    return chosen;
                }
            }
            return 0;
        }

        private int toPlaces(int chosen) {
            int set = 0;
            for (int i = 0; i < kept; i++) {
                if ((chosen >> i & 1) != 0) {
                    set |= 1 << spots[i];
                }
            }
            return set;
        }

        /** The fewest turns for so many days more (8 at most), or IMPOSSIBLE. */
        private int fewest(int state, int days) {
            if (days <= 0) {
                return 0;
            }
            int key = days << FIELD * MOST_KEPT | state;
            int known = lookUp(key);
            if (known != NONE) {
                return known;
            }
            int best = IMPOSSIBLE;
            for (int chosen = 0; chosen < 1 << kept; chosen++) {
                if (!canChoose(state, chosen, days)) {
                    continue;
                }
                int turns = Integer.bitCount(chosen);
                int next = capped(behind(state, chosen), days - 1);
                // Most ways are seen to be no better without being gone.
                if (turns + leastPossible(next, days - 1) < best) {
                    best = Math.min(best, turns + fewest(next, days - 1));
                }
            }
            remember(key, best);
            return best;
        }

        /** The turns that are needed, if each barrel is turned as late as it can be and hands suffice. */
        private int leastPossible(int state, int days) {
            int turns = 0;
            for (int i = 0; i < kept; i++) {
                int late = days - (state >> FIELD * i & FIELD_BITS) - 1;
                if (late >= 0) {
                    turns += 1 + late / ((fresh >> FIELD * i & FIELD_BITS) + 1);
                }
            }
            return turns;
        }

        /** Whether none that must be is left out, none that need not be at all is in, and hands suffice. */
        private boolean canChoose(int state, int chosen, int days) {
            if (Integer.bitCount(chosen) > hands) {
                return false;
            }
            for (int i = 0; i < kept; i++) {
                int wait = state >> FIELD * i & FIELD_BITS;
                boolean turned = (chosen >> i & 1) != 0;
                if (turned ? wait >= days : wait == 0) {
                    return false;
                }
            }
            return true;
        }

        /** The state behind a day; who isn't chosen can wait, as was looked at before. */
        private int behind(int state, int chosen) {
            int next = 0;
            for (int i = 0; i < kept; i++) {
                int shift = FIELD * i;
                int wait = (chosen >> i & 1) != 0 ? fresh >> shift & FIELD_BITS
                        : Math.max(0, (state >> shift & FIELD_BITS) - 1);
                next |= wait << shift;
            }
            return next;
        }

        /** Who can wait for all days that are left is alike, however much longer: so states are few. */
        private int capped(int state, int days) {
            if (days >= FIELD_BITS) {
                return state;
            }
            int next = 0;
            for (int i = 0; i < kept; i++) {
                next |= Math.min(days, state >> FIELD * i & FIELD_BITS) << FIELD * i;
            }
            return next;
        }

        int mostDays() {
            if (hands >= kept) {
                return MOST_DAYS;
            }
            Arrays.fill(table, 0);
            return lasting(start, 0);
        }

        /**
         * How many days more it can be kept so, MOST_DAYS together with those passed. All hands are
         * used each day: who is turned can never wait shorter by that.
         */
        private int lasting(int state, int passed) {
            if (passed >= MOST_DAYS) {
                return 0;
            }
            int known = lookUp(state);
            if (known != NONE) {
                return known;
            }
            int best = 0;
            for (int chosen = 0; chosen < 1 << kept; chosen++) {
                if (Integer.bitCount(chosen) == hands && canChoose(state, chosen, FIELD_BITS + 1)) {
                    best = Math.max(best, 1 + lasting(behind(state, chosen), passed + 1));
                    if (passed + best >= MOST_DAYS) {
                        return MOST_DAYS - passed;
                    }
                }
            }
            remember(state, best);
            return best;
        }

        private int lookUp(int key) {
            int entry = table[slotOf(key)];
            return entry != 0 && entry - 1 >> VALUE_BITS == key ? entry - 1 & IMPOSSIBLE : NONE;
        }

        private void remember(int key, int value) {
            table[slotOf(key)] = (key << VALUE_BITS | Math.min(value, IMPOSSIBLE)) + 1;
        }

        /** The slot that has a key, or the free one where it belongs. */
        private int slotOf(int key) {
            int slot = key * 0x9E3779B1 >>> 32 - TABLE_BITS;
            for (int i = 0; i < table.length; i++) {
                if (table[slot] == 0 || table[slot] - 1 >> VALUE_BITS == key) {
                    return slot;
                }
                slot = slot + 1 & table.length - 1;
            }
            return slot;
        }
    }

    /** Which barrels are ripe in time, and for whom. */
    private static final class Buyers {
        static final int MOST_ORDERS = 10;

        private final Shelf shelf;
        private final int[] ripeAfter = new int[MOST_PLACES];
        /** Orders, those first that are due first. */
        private final int[] byDue = new int[MOST_ORDERS];
        int turnsOfRipest;

        Buyers(Shelf shelf) {
            this.shelf = shelf;
        }

        /**
         * Who needs fewer turns is taken first, of like ones the least place: that are the most with
         * the fewest turns and the least bits. Hands on all days together suffice, as none needs
         * more turns than there are days.
         */
        int ripest(int days) {
            int free = days * shelf.hands;
            int chosen = 0;
            turnsOfRipest = 0;
            for (int turns = 0; turns <= days; turns++) {
                for (int p = 0; p < shelf.places; p++) {
                    boolean fits = shelf.kind[p] == SOUND && turnsOfRipest + turns <= free;
                    if (fits && shelf.turnsToRipe(p, days) == turns) {
                        chosen |= 1 << p;
                        turnsOfRipest += turns;
                    }
                }
            }
            return chosen;
        }

        int howManyMet(Row wanted) {
            look(wanted);
            return mostMet(wanted, 0, 0);
        }

        /** The place whose barrel an order gets by the first of the best ways. */
        int placeFor(Row wanted, int order) {
            if (order >= wanted.size) {
                return NONE;
            }
            look(wanted);
            int most = mostMet(wanted, 0, 0);
            int given = 0;
            int place = NONE;
            for (int i = 0; i <= order; i++) {
                place = leastPlace(wanted, i, given, most);
                if (place != NONE) {
                    given |= 1 << place;
                    most--;
                }
            }
            return place;
        }

        private void look(Row wanted) {
            for (int p = 0; p < shelf.places; p++) {
                ripeAfter[p] = shelf.daysToRipe(p);
            }
            int size = Math.min(wanted.size, MOST_ORDERS);
            for (int i = 0; i < size; i++) {
                int j = i;
                while (j > 0 && wanted.at(byDue[j - 1]) > wanted.at(i)) {
                    byDue[j] = byDue[j - 1];
                    j--;
                }
                byDue[j] = i;
            }
        }

        /** The least place by which this order and later ones are still so many met. */
        private int leastPlace(Row wanted, int order, int given, int most) {
            for (int p = 0; p < shelf.places; p++) {
                if (isFor(wanted, order, p, given)
                        && mostMet(wanted, order + 1, given | 1 << p) + 1 == most) {
                    return p;
                }
            }
            return NONE;
        }

        private boolean isFor(Row wanted, int order, int p, int given) {
            return ripeAfter[p] != NONE && ripeAfter[p] <= wanted.at(order) && (given >> p & 1) == 0;
        }

        /** How many orders from one on can be met by barrels that aren't given yet. */
        private int mostMet(Row wanted, int from, int given) {
            int met = 0;
            int size = Math.min(wanted.size, MOST_ORDERS);
            for (int i = 0; i < size; i++) {
                // A barrel that is ripe for this order is so for all that are due later.
                if (byDue[i] >= from && howManyFor(wanted, byDue[i], given) > met) {
                    met++;
                }
            }
            return met;
        }

        private int howManyFor(Row wanted, int order, int given) {
            int found = 0;
            for (int p = 0; p < shelf.places; p++) {
                if (isFor(wanted, order, p, given)) {
                    found++;
                }
            }
            return found;
        }
    }

    /** Lays the barrels anew, place by place, so that neighbours' tones are told apart. */
    private static final class Layer {
        private static final int MOST_LAID = 8;
        private static final int BEYOND = 1000;

        private final Shelf shelf;
        private final int[] spots = new int[MOST_LAID];
        private final int[] tones = new int[MOST_LAID];
        /** By the set of barrels that are laid and the last of them: the best for what is still to be laid. */
        private final int[] best = new int[(1 << MOST_LAID) * MOST_LAID];
        private int barrels;

        Layer(Shelf shelf) {
            this.shelf = shelf;
        }

        /** Looks at the shelf: whether the barrels are not too many. */
        boolean looks() {
            barrels = 0;
            for (int p = 0; p < shelf.places; p++) {
                if (shelf.kind[p] == GAP) {
                    continue;
                }
                if (barrels >= MOST_LAID) {
                    return false;
                }
                spots[barrels] = p;
                tones[barrels] = shelf.toneNow(p);
                barrels++;
            }
            return true;
        }

        int leastDifference() {
            int difference = tryAll();
            return difference >= BEYOND ? NONE : difference;
        }

        /** The place from which the barrel comes that is laid to a place; NONE: a gap. */
        int comesTo(int place) {
            int goal = tryAll();
            int laid = 0;
            int last = NONE;
            for (int i = 0; i < barrels; i++) {
                last = leastNext(laid, last, goal);
                laid |= 1 << last;
                if (spots[i] == place) {
                    return spots[last];
                }
            }
            return NONE;
        }

        private int leastNext(int laid, int last, int goal) {
            for (int one = 0; one < barrels; one++) {
                if ((laid >> one & 1) == 0 && differenceWith(laid, last, one) >= goal) {
                    return one;
                }
            }
            return 0;
        }

        /** Fills in what is best behind each set that is laid, the whole one first: the best of all. */
        private int tryAll() {
            int all = (1 << barrels) - 1;
            for (int laid = all; laid > 0; laid--) {
                for (int last = 0; last < barrels; last++) {
                    if ((laid >> last & 1) != 0) {
                        best[laid * MOST_LAID + last] = laid == all ? BEYOND : bestBehind(laid, last);
                    }
                }
            }
            return barrels == 0 ? BEYOND : bestBehind(0, NONE);
        }

        private int bestBehind(int laid, int last) {
            int most = 0;
            for (int one = 0; one < barrels; one++) {
                if ((laid >> one & 1) == 0) {
                    most = Math.max(most, differenceWith(laid, last, one));
                }
            }
            return most;
        }

        /** The least difference from the last laid on, if one is laid next and the rest as well as can be. */
        private int differenceWith(int laid, int last, int one) {
            int rest = best[(laid | 1 << one) * MOST_LAID + one];
            int spot = Integer.bitCount(laid);
            if (last < 0 || spot < 1 || spot >= barrels || spots[spot] != spots[spot - 1] + 1) {
                return rest;
            }
            return Math.min(rest, Math.abs(tones[last] - tones[one]));
        }
    }
}

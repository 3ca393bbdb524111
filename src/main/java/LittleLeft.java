import java.util.Arrays;

/** A tin of grains in a kitchen, from which all take, each so that it need not fetch the new one. */
public final class LittleLeft {
    public static final int NONE = -1, BAD = -2, STATE = -3, FULL = -4;
    public static final long NO = Long.MIN_VALUE;

    private static final int NOBODY = -5, TOO_MANY = -9, FAULTY = -10;
    private static final int NOTHING = -11, CAST = -12, PLACE = -13, SIZE = -14;
    private static final int NONE_WITHOUT = -10001, BAD_WITHOUT = -10002;

    private static final int TAKER = 0, HALVER = 1, POLITE = 2, PROUD = 3, GREEDY = 4, NEW = 5, TOLD = 6;
    private static final int[] KIND_ABOVE = {-1, TAKER, TAKER, TAKER, HALVER, POLITE, PROUD};

    private static final int MOST_TAKERS = 6, MOST_GRAINS = 990, LAST_DAY = 9999;
    private static final int MOST_RULES = 6, MOST_CLAUSES = 10, MOST_SIGNS = 100, MOST_OPEN = 4;
    private static final int MOST_SEEN = 6, MOST_BOOK = 12, MOST_KEPT = 20;
    private static final int TAPES = 6, MOST_ITEMS = 60, MOST_ORDERED = 5;
    private static final int NO_ONE = -1;

    private final Rule noRule = new Rule();
    private final Kitchen now = new Kitchen(noRule);
    private final Kitchen image = new Kitchen(noRule);
    // What is asked goes on here, from how all is, so that it changes nothing.
    private final Kitchen trial = new Kitchen(noRule);
    private final Notes notes = new Notes();
    private final Notes imageNotes = new Notes();
    private boolean imaged = false;

    private final Reader reader = new Reader();
    private final Rule[] rules = new Rule[MOST_RULES];
    private int ruleCount = 0;

    private final int[] tried = new int[MOST_ORDERED];
    private final int[] best = new int[MOST_ORDERED];
    private final Acts acts = new Acts();
    private final Tape[] tapes = new Tape[TAPES];

    public LittleLeft() {
        for (int i = 0; i < rules.length; i++) {
            rules[i] = new Rule();
        }
        for (int i = 0; i < tapes.length; i++) {
            tapes[i] = new Tape();
        }
    }

    // ---- takers, the tin, rules

    public int taker(int kind, int v, int portion) {
        if (!inside(kind, TAKER, TOLD)) {
            return NONE;
        }
        if (!inside(v, 0, 9) || !inside(portion, 1, 60)) {
            return BAD;
        }
        return now.takers < MOST_TAKERS ? now.admit(kind, v, portion) : FULL;
    }

    public int of(int taker, int what) {
        if (!isTaker(taker)) {
            return NONE;
        }
        switch (what) {
            case 0: return now.kind[taker];
            case 1: return now.v[taker];
            case 2: return now.portion[taker];
            case 3: return now.cups[taker];
            case 4: return now.fetches[taker];
            case 5: return now.coins[taker];
            case 6: return now.wants(taker);
            case 7: return now.pay(taker);
            default: return NONE;
        }
    }

    public int portion(int taker, int n) {
        if (!isTaker(taker)) {
            return NONE;
        }
        if (!inside(n, 1, 60)) {
            return BAD;
        }
        int before = now.portion[taker];
        now.portion[taker] = n;
        return before;
    }

    public int fill(int n) {
        if (!inside(n, 0, MOST_GRAINS)) {
            return BAD;
        }
        int before = now.grains;
        now.grains = n;
        return before;
    }

    public int row(int taker, int part, int n) {
        if (!isTaker(taker) || !inside(part, 0, Kitchen.PARTS - 1)) {
            return NONE;
        }
        if (!inside(n, 0, 9)) {
            return BAD;
        }
        if (now.kind[taker] != TOLD) {
            return STATE;
        }
        int place = taker * Kitchen.PARTS + part;
        int before = now.rows[place];
        now.rows[place] = n;
        return before;
    }

    public int feed(int sign) {
        if (!inside(sign, 0, 127)) {
            return BAD;
        }
        if (reader.signs >= MOST_SIGNS) {
            return FULL;
        }
        reader.text[reader.signs] = (byte) sign;
        reader.signs++;
        return reader.signs;
    }

    public int rule() {
        if (ruleCount >= MOST_RULES) {
            return FULL;
        }
        Rule next = rules[ruleCount];
        boolean well = reader.understands(next);
        // Behind a FAULT, too, THE TEXT begins anew.
        reader.signs = 0;
        if (!well) {
            return FAULTY - reader.at;
        }
        now.hold(next);
        ruleCount++;
        return ruleCount - 1;
    }

    public int told(int what) {
        switch (what) {
            case 0: return now.grains;
            case 1: return now.day;
            case 2: return now.least;
            case 3: return now.full;
            case 4: return sum(now.fetches, now.takers);
            default: return NONE;
        }
    }

    // ---- takings, days

    public int takes(int taker) {
        return isTaker(taker) ? now.taking(taker) : NONE;
    }

    public int day() {
        return now.day < LAST_DAY ? now.go(1, NO_ONE, NO_ONE) : STATE;
    }

    public int on(int n, int what) {
        boolean cups = isTaker(what - 10);
        boolean fetches = isTaker(what - 20);
        if (!cups && !fetches && !inside(what, 0, 2)) {
            return NONE;
        }
        if (!inside(n, 0, 60)) {
            return BAD;
        }
        trial.becomes(now);
        int fetched = trial.go(n, NO_ONE, NO_ONE);
        if (cups) {
            return cupsMore(what - 10);
        }
        if (fetches) {
            return fetchesMore(what - 20);
        }
        switch (what) {
            case 0: return trial.grains;
            case 1: return fetched;
            default: return sum(trial.coins, trial.takers) - sum(now.coins, now.takers);
        }
    }

    public int would(int taker, int what) {
        if (!isTaker(taker) || !inside(what, 0, 2)) {
            return NONE;
        }
        trial.becomes(now);
        int took = trial.taking(taker);
        if (what == 0) {
            return took;
        }
        return what == 1 ? trial.grains : fetchesMore(taker);
    }

    public int next(int what) {
        if (!inside(what, 0, 1)) {
            return NONE;
        }
        trial.becomes(now);
        for (int d = 0; d < 60; d++) {
            for (int p = 0; p < trial.takers; p++) {
                trial.taking(p);
                if (fetchesMore(p) > 0) {
                    return what == 0 ? p : d;
                }
            }
            trial.day++;
        }
        return NOBODY;
    }

    // ---- rules that are better

    public int least(int n, int what) {
        if (!inside(what, 0, 1)) {
            return NONE;
        }
        if (!inside(n, 1, 10)) {
            return BAD;
        }
        int chosen = 0;
        int fewest = Integer.MAX_VALUE;
        for (int least = 0; least <= 20; least++) {
            trial.becomes(now);
            trial.least = least;
            int fetched = trial.go(n, NO_ONE, NO_ONE);
            if (fetched < fewest) {
                chosen = least;
                fewest = fetched;
            }
        }
        return what == 0 ? chosen : fewest;
    }

    public int full(int n, int what) {
        if (!inside(what, 0, 1)) {
            return NONE;
        }
        if (!inside(n, 1, 10)) {
            return BAD;
        }
        int chosen = 0;
        int cheapest = Integer.MAX_VALUE;
        for (int tens = 1; tens <= 30; tens++) {
            trial.becomes(now);
            trial.full = 10 * tens;
            int cost = trial.go(n, NO_ONE, NO_ONE) * (tens + 9);
            if (cost < cheapest) {
                chosen = 10 * tens;
                cheapest = cost;
            }
        }
        return what == 0 ? chosen : cheapest;
    }

    public int order(int k) {
        if (!inside(k, -1, MOST_ORDERED - 1)) {
            return NONE;
        }
        if (now.takers > MOST_ORDERED) {
            return TOO_MANY;
        }
        if (k >= now.takers) {
            return NOBODY;
        }
        int most = -1;
        int orders = ordersOf(now.takers);
        for (int rank = 0; rank < orders; rank++) {
            putOrder(rank, orders, now.takers);
            int took = takenByOrder();
            // Ranks go up as the rows do, so the first of several stays.
            if (took > most) {
                most = took;
                System.arraycopy(tried, 0, best, 0, best.length);
            }
        }
        return k < 0 ? most : best[k];
    }

    public int without(int taker, int n) {
        if (!isTaker(taker)) {
            return NONE_WITHOUT;
        }
        if (!inside(n, 0, 30)) {
            return BAD_WITHOUT;
        }
        trial.becomes(now);
        int with = trial.go(n, NO_ONE, NO_ONE);
        trial.becomes(now);
        return with - trial.go(n, NO_ONE, taker);
    }

    // ---- few, seen

    public int few(int g, int what) {
        if (!inside(what, 0, 1)) {
            return NONE;
        }
        if (!inside(g, 0, 99)) {
            return BAD;
        }
        trial.becomes(now);
        int p = 0;
        for (int t = 0; t < 300 && trial.takers > 0; t++) {
            trial.taking(p);
            if (inside(trial.left, 1, g)) {
                return what == 0 ? t : p;
            }
            p++;
            if (p == trial.takers) {
                p = 0;
                trial.day++;
            }
        }
        return NOBODY;
    }

    public int pitied(int n) {
        if (!inside(n, 1, 60)) {
            return BAD;
        }
        if (now.takers == 0) {
            return NOBODY;
        }
        trial.becomes(now);
        trial.go(n, NO_ONE, NO_ONE);
        int most = 0;
        for (int p = 1; p < now.takers; p++) {
            if (fetchesMore(p) * (cupsMore(most) + 1) > fetchesMore(most) * (cupsMore(p) + 1)) {
                most = p;
            }
        }
        return most;
    }

    public int see(int found, int left) {
        if (found == -1) {
            notes.seen = 0;
            return 0;
        }
        if (!inside(found, 0, MOST_GRAINS) || !inside(left, 0, MOST_GRAINS)) {
            return BAD;
        }
        if (notes.seen >= MOST_SEEN) {
            return FULL;
        }
        notes.found[notes.seen] = found;
        notes.left[notes.seen] = left;
        notes.seen++;
        return notes.seen;
    }

    public int who() {
        int bits = 0;
        for (int p = 0; p < now.takers; p++) {
            if (leavesWhatIsSeen(p)) {
                bits |= 1 << p;
            }
        }
        return bits;
    }

    // ---- odds, books

    public long odds(int taker, int n, int part) {
        if (!isTaker(taker) || !inside(n, 0, 30) || !inside(part, 0, 1)) {
            return NO;
        }
        int cases = 0;
        for (int first = 0; first < now.takers; first++) {
            trial.becomes(now);
            trial.go(n, first, NO_ONE);
            if (fetchesMore(taker) > 0) {
                cases++;
            }
        }
        return lowest(cases, now.takers, part);
    }

    public long mean(int n, int part) {
        if (!inside(n, 1, 60) || !inside(part, 0, 1)) {
            return NO;
        }
        trial.becomes(now);
        int together = 0;
        for (int d = 0; d < n; d++) {
            trial.go(1, NO_ONE, NO_ONE);
            together += trial.grains;
        }
        return lowest(together, n, part);
    }

    public int book(int n) {
        if (n == -1) {
            notes.written = 0;
            return 0;
        }
        if (!inside(n, 0, 999)) {
            return BAD;
        }
        if (notes.written >= MOST_BOOK) {
            return FULL;
        }
        notes.book[notes.written] = n;
        notes.written++;
        return notes.written;
    }

    public int looked() {
        trial.becomes(now);
        for (int d = 0; d < notes.written; d++) {
            trial.go(1, NO_ONE, NO_ONE);
            if (trial.grains != notes.book[d]) {
                return d;
            }
        }
        return NOBODY;
    }

    // ---- judging, the image, acts, tapes

    public int judge(int tape, int i) {
        if (!isTape(tape)) {
            return NONE;
        }
        Tape told = tapes[tape];
        if (told.sort != Tape.NO_ROW && told.sort != Tape.INTS) {
            return CAST;
        }
        for (int p = 0; p < now.takers; p++) {
            // Written so that a place near the greatest int does not wrap.
            if (i < 0 || i >= told.size - p) {
                return 100 + p;
            }
            if (told.items[i + p] != now.fetches[p]) {
                return p;
            }
        }
        return NOBODY;
    }

    public int image() {
        image.becomes(now);
        imageNotes.become(notes);
        imaged = true;
        return now.takers;
    }

    public int undo() {
        if (!imaged) {
            return STATE;
        }
        now.becomes(image);
        notes.become(imageNotes);
        return now.takers;
    }

    public int act(int taker, int act, int x) {
        if (!isTaker(taker) || !inside(act, 0, 2)) {
            acts.ran = 0;
            return 0;
        }
        return acts.perform(now.kind[taker], taker, now.v[taker], act, x);
    }

    public int trace(int i) {
        return inside(i, 0, Math.min(acts.ran, MOST_KEPT) - 1) ? acts.bodies[i] : NONE;
    }

    public int taken(int taker, int k) {
        if (!inside(k, TAKER, TOLD)) {
            return BAD;
        }
        if (!isTaker(taker)) {
            return NOTHING;
        }
        return isUnder(now.kind[taker], k) ? now.kind[taker] : CAST;
    }

    public int count(int what) {
        switch (what) {
            case 0: return now.takers;
            case 1: return ruleCount;
            case 2: return notes.seen;
            case 3: return notes.written;
            case 4: return reader.signs;
            case 5: return acts.ran;
            default: return BAD;
        }
    }

    public int tape(int tape, int sort, int n) {
        if (!isTape(tape)) {
            return NONE;
        }
        if (sort == Tape.NO_ROW) {
            tapes[tape].become(sort, 0);
            return 1;
        }
        if (!inside(sort, Tape.BYTES, Tape.BOOLEANS) || n > MOST_ITEMS) {
            return BAD;
        }
        if (n < 0) {
            return SIZE;
        }
        tapes[tape].become(sort, n);
        return 1;
    }

    public int item(int tape, int i, long v) {
        if (!isTape(tape)) {
            return NONE;
        }
        Tape row = tapes[tape];
        if (row.sort == Tape.NO_ROW) {
            return NOTHING;
        }
        if (!inside(i, 0, row.size - 1)) {
            return PLACE;
        }
        row.items[i] = row.narrowed(v);
        return 1;
    }

    public long read(int tape, int i) {
        if (!isTape(tape)) {
            return NO;
        }
        Tape row = tapes[tape];
        return row.sort != Tape.NO_ROW && inside(i, 0, row.size - 1) ? row.items[i] : NO;
    }

    public int shift(int tape, int i, int other, int j, int n) {
        if (!isTape(tape) || !isTape(other)) {
            return NONE;
        }
        Tape from = tapes[tape];
        Tape to = tapes[other];
        if (from.sort == Tape.NO_ROW || to.sort == Tape.NO_ROW) {
            return NOTHING;
        }
        if (from.sort != to.sort) {
            return CAST;
        }
        if (n < 0 || !inside(i, 0, from.size - n) || !inside(j, 0, to.size - n)) {
            return PLACE;
        }
        System.arraycopy(from.items, i, to.items, j, n);
        return n;
    }

    // ---- what the calls share

    private static boolean inside(int n, int from, int to) {
        return n >= from && n <= to;
    }

    private boolean isTaker(int taker) {
        return inside(taker, 0, now.takers - 1);
    }

    private static boolean isTape(int tape) {
        return inside(tape, 0, TAPES - 1);
    }

    private static int sum(int[] numbers, int n) {
        int together = 0;
        for (int i = 0; i < n && i < numbers.length; i++) {
            together += numbers[i];
        }
        return together;
    }

    private int cupsMore(int p) {
        return trial.cups[p] - now.cups[p];
    }

    private int fetchesMore(int p) {
        return trial.fetches[p] - now.fetches[p];
    }

    private boolean leavesWhatIsSeen(int p) {
        for (int s = 0; s < notes.seen; s++) {
            trial.becomes(now);
            trial.grains = notes.found[s];
            trial.taking(p);
            if (trial.grains != notes.left[s]) {
                return false;
            }
        }
        return true;
    }

    private static int ordersOf(int m) {
        int orders = 1;
        for (int i = 2; i <= m; i++) {
            orders *= i;
        }
        return orders;
    }

    /** Puts that order of m TAKERS into tried ahead of which, as rows go up, there are rank others. */
    private void putOrder(int rank, int orders, int m) {
        int used = 0;
        int rest = rank;
        int block = orders;
        for (int k = 0; k < m && k < tried.length; k++) {
            block /= m - k;
            if (block < 1) {
                return;
            }
            tried[k] = unused(used, rest / block, m);
            used |= 1 << tried[k];
            rest %= block;
        }
    }

    /** The TAKER ahead of which there are n others that are not among the used ones. */
    private static int unused(int used, int n, int m) {
        int ahead = n;
        for (int p = 0; p < m; p++) {
            if ((used >> p & 1) == 0) {
                if (ahead == 0) {
                    return p;
                }
                ahead--;
            }
        }
        return 0;
    }

    private int takenByOrder() {
        trial.becomes(now);
        int took = 0;
        for (int k = 0; k < trial.takers && k < tried.length; k++) {
            took += trial.taking(tried[k]);
        }
        return took;
    }

    /** Above the line (part 0) or below it of above/below in lowest terms; 0 is 0/1. */
    private static long lowest(int above, int below, int part) {
        for (int by = below; by > 1; by--) {
            if (above % by == 0 && below % by == 0) {
                return part == 0 ? above / by : below / by;
            }
        }
        return part == 0 ? above : below;
    }

    private static boolean isUnder(int kind, int k) {
        int above = kind;
        for (int i = 0; i < KIND_ABOVE.length && inside(above, TAKER, TOLD); i++) {
            if (above == k) {
                return true;
            }
            above = KIND_ABOVE[above];
        }
        return false;
    }

    /** TAKERS, THE TIN, DAY and the RULE that holds: how all is, or how it would go on. */
    private static final class Kitchen {
        static final int PARTS = 4;

        int takers = 0;
        final int[] kind = new int[MOST_TAKERS];
        final int[] v = new int[MOST_TAKERS];
        final int[] portion = new int[MOST_TAKERS];
        final int[] cups = new int[MOST_TAKERS];
        final int[] fetches = new int[MOST_TAKERS];
        final int[] coins = new int[MOST_TAKERS];
        final int[] rows = new int[MOST_TAKERS * PARTS];
        int grains = 100;
        int day = 0;
        private Rule held;
        // Of the RULE that holds; a trial may put others in their place.
        int least;
        int full;
        // GRAINS that the latest TAKING left ahead of FETCHING.
        int left = 0;
        private final int[] facts = new int[Rule.LETTERS.length()];

        Kitchen(Rule rule) {
            held = rule;
            least = rule.least;
            full = rule.full;
        }

        void becomes(Kitchen other) {
            takers = other.takers;
            System.arraycopy(other.kind, 0, kind, 0, kind.length);
            System.arraycopy(other.v, 0, v, 0, v.length);
            System.arraycopy(other.portion, 0, portion, 0, portion.length);
            System.arraycopy(other.cups, 0, cups, 0, cups.length);
            System.arraycopy(other.fetches, 0, fetches, 0, fetches.length);
            System.arraycopy(other.coins, 0, coins, 0, coins.length);
            System.arraycopy(other.rows, 0, rows, 0, rows.length);
            grains = other.grains;
            day = other.day;
            held = other.held;
            least = other.least;
            full = other.full;
        }

        void hold(Rule rule) {
            held = rule;
            least = rule.least;
            full = rule.full;
        }

        int admit(int itsKind, int itsV, int itsPortion) {
            int p = takers;
            kind[p] = itsKind;
            v[p] = itsV;
            portion[p] = itsPortion;
            cups[p] = 0;
            fetches[p] = 0;
            coins[p] = 0;
            for (int part = 0; part < PARTS; part++) {
                rows[p * PARTS + part] = 0;
            }
            takers++;
            return p;
        }

        int wants(int p) {
            return portion[p] + held.together(Rule.WANT, factsOf(p));
        }

        int pay(int p) {
            return held.together(Rule.PAY, factsOf(p));
        }

        /** What a TEST of a TAKER may ask, as Rule.LETTERS stand. */
        private int[] factsOf(int p) {
            facts[0] = p;
            facts[1] = kind[p];
            facts[2] = v[p];
            facts[3] = grains / 10;
            facts[4] = day % 7;
            facts[5] = fetches[p] % 100;
            return facts;
        }

        /** A TAKING: what it TAKES. */
        int taking(int p) {
            if (p < 0 || p >= takers) {
                return 0;
            }
            int wanted = wants(p);
            if (fetchesFirst(p, wanted)) {
                fetch(p);
            }
            int took = amount(p, wanted);
            if (took >= 1) {
                cups[p]++;
            }
            grains -= took;
            left = grains;
            if (grains < least) {
                fetch(p);
            }
            return took;
        }

        private boolean fetchesFirst(int p, int wanted) {
            switch (kind[p]) {
                case PROUD: return grains < wanted + least;
                case TOLD: return grains < 10 * rows[p * PARTS + day % PARTS];
                default: return false;
            }
        }

        private void fetch(int p) {
            coins[p] += pay(p);
            grains = full;
            fetches[p]++;
        }

        private int amount(int p, int wanted) {
            switch (kind[p]) {
                case HALVER: return Math.min(grains / 2, wanted);
                case GREEDY: return Math.min(grains / 2, 2 * wanted);
                case NEW: return Math.min(wanted, grains);
                case POLITE: return downToLeast(grains < 2 * wanted ? wanted / 2 : wanted);
                default: return downToLeast(wanted);
            }
        }

        private int downToLeast(int wanted) {
            return Math.min(wanted, Math.max(grains - least, 0));
        }

        /** Lets n DAYS go, by all but one, each DAY one first: how many FETCHES there are. */
        int go(int n, int first, int absent) {
            int before = sum(fetches, takers);
            for (int d = 0; d < n; d++) {
                if (first != NO_ONE) {
                    taking(first);
                }
                for (int p = 0; p < takers; p++) {
                    if (p != first && p != absent) {
                        taking(p);
                    }
                }
                day++;
            }
            return sum(fetches, takers) - before;
        }
    }

    /** What is told by hand: what is SEEN, and the BOOK. */
    private static final class Notes {
        int seen = 0;
        final int[] found = new int[MOST_SEEN];
        final int[] left = new int[MOST_SEEN];
        int written = 0;
        final int[] book = new int[MOST_BOOK];

        void become(Notes other) {
            seen = other.seen;
            System.arraycopy(other.found, 0, found, 0, found.length);
            System.arraycopy(other.left, 0, left, 0, left.length);
            written = other.written;
            System.arraycopy(other.book, 0, book, 0, book.length);
        }
    }

    /** CLAUSES as they were read: each E as steps, the parts ahead of what joins them. */
    private static final class Rule {
        static final int WANT = 0, LEAST = 1, FILLED = 2, PAY = 3;
        static final int NOT = -1, AND = -2, OR = -3;
        static final String LETTERS = "pkvgdf";

        private int clauses = 0;
        private final int[] word = new int[MOST_CLAUSES];
        private final int[] number = new int[MOST_CLAUSES];
        private final int[] from = new int[MOST_CLAUSES];
        private final int[] to = new int[MOST_CLAUSES];
        private final int[] steps = new int[MOST_SIGNS];
        private int length = 0;
        int least = 5;
        int full = 200;

        void clear() {
            clauses = 0;
            length = 0;
            least = 5;
            full = 200;
        }

        void begin(int itsWord, int n) {
            if (clauses >= MOST_CLAUSES) {
                return;
            }
            word[clauses] = itsWord;
            number[clauses] = n;
            from[clauses] = length;
            if (itsWord == LEAST) {
                least = n;
            } else if (itsWord == FILLED) {
                full = 10 * n;
            }
        }

        void step(int step) {
            if (length < steps.length) {
                steps[length] = step;
                length++;
            }
        }

        void end() {
            if (clauses < MOST_CLAUSES) {
                to[clauses] = length;
                clauses++;
            }
        }

        static int test(int letter, int sign, int n) {
            return letter << 16 | sign << 8 | n;
        }

        /** The numbers of all CLAUSES of a word whose E holds, together. */
        int together(int itsWord, int[] facts) {
            int sum = 0;
            for (int c = 0; c < clauses; c++) {
                if (word[c] == itsWord && holds(from[c], to[c], facts)) {
                    sum += number[c];
                }
            }
            return sum;
        }

        /** Whether the E of these steps holds: a bit for each part of it, the newest lowest. */
        private boolean holds(int begin, int end, int[] facts) {
            int bits = 0;
            for (int i = begin; i < end; i++) {
                int newest = bits & 1;
                switch (steps[i]) {
                    case NOT:
                        bits ^= 1;
                        break;
                    case AND:
                        bits = bits >> 1 & (newest | ~1);
                        break;
                    case OR:
                        bits = bits >> 1 | newest;
                        break;
                    default:
                        bits = bits << 1 | (passes(steps[i], facts) ? 1 : 0);
                }
            }
            return (bits & 1) == 1;
        }

        private static boolean passes(int test, int[] facts) {
            int letter = test >> 16;
            int is = letter >= 0 && letter < facts.length ? facts[letter] : 0;
            int n = test & 255;
            switch (test >> 8 & 255) {
                case '<': return is < n;
                case '=': return is == n;
                default: return is > n;
            }
        }
    }

    /** THE TEXT, and how it is read: no step goes beyond a byte that does not fit, so at is then the FAULT. */
    private static final class Reader {
        final byte[] text = new byte[MOST_SIGNS];
        int signs = 0;
        int at = 0;
        private Rule into = new Rule();

        /** Whether THE TEXT is a RULE, which is then put into one. */
        boolean understands(Rule rule) {
            at = 0;
            into = rule;
            into.clear();
            for (int c = 1; c <= MOST_CLAUSES; c++) {
                if (!clause()) {
                    return false;
                }
                if (at == signs) {
                    return true;
                }
                if (c == MOST_CLAUSES || !skips(';')) {
                    return false;
                }
            }
            return false;
        }

        private int sign() {
            return at < signs && at < text.length ? text[at] : -1;
        }

        private boolean skips(int sign) {
            if (sign() != sign) {
                return false;
            }
            at++;
            return true;
        }

        private boolean clause() {
            switch (sign()) {
                case 'w': return words("want ") && begins(Rule.WANT) && skips(' ') && either(0) && ends();
                case 'l': return words("least ") && begins(Rule.LEAST) && ends();
                case 'f': return words("full ") && begins(Rule.FILLED) && ends();
                case 'p': return words("pay ") && begins(Rule.PAY) && skips(' ') && either(0) && ends();
                default: return false;
            }
        }

        private boolean words(String word) {
            for (int i = 0; i < word.length(); i++) {
                if (!skips(word.charAt(i))) {
                    return false;
                }
            }
            return true;
        }

        private boolean begins(int word) {
            int n = number();
            if (n < 0) {
                return false;
            }
            into.begin(word, n);
            return true;
        }

        private boolean ends() {
            into.end();
            return true;
        }

        /** One or two digits: their number; -1: there are none. */
        private int number() {
            if (!isDigit(sign())) {
                return -1;
            }
            int n = sign() - '0';
            at++;
            if (isDigit(sign())) {
                n = 10 * n + sign() - '0';
                at++;
            }
            return n;
        }

        private static boolean isDigit(int sign) {
            return sign >= '0' && sign <= '9';
        }

        /** E, within so many ( and !. */
        private boolean either(int open) {
            for (int t = 0; t < MOST_SIGNS; t++) {
                if (!factor(open)) {
                    return false;
                }
                for (int f = 0; f < MOST_SIGNS && skips('&'); f++) {
                    if (!factor(open)) {
                        return false;
                    }
                    into.step(Rule.AND);
                }
                if (t > 0) {
                    into.step(Rule.OR);
                }
                if (!skips('|')) {
                    return true;
                }
            }
            return false;
        }

        /** F, within so many ( and !. */
        private boolean factor(int open) {
            if (sign() != '!' && sign() != '(') {
                return test();
            }
            if (open >= MOST_OPEN) {
                return false;
            }
            if (skips('(')) {
                return either(open + 1) && skips(')');
            }
            at++;
            if (!factor(open + 1)) {
                return false;
            }
            into.step(Rule.NOT);
            return true;
        }

        private boolean test() {
            int letter = sign() < 0 ? -1 : Rule.LETTERS.indexOf((char) sign());
            if (letter < 0) {
                return false;
            }
            at++;
            int sign = sign();
            if (sign != '<' && sign != '=' && sign != '>') {
                return false;
            }
            at++;
            int n = number();
            if (n < 0) {
                return false;
            }
            into.step(Rule.test(letter, sign, n));
            return true;
        }
    }

    /** The BODIES of acts, and THE TRACE of those that ran in the latest act(). */
    private static final class Acts {
        final int[] bodies = new int[MOST_KEPT];
        int ran = 0;
        private int kind = TAKER;
        private int number = 0;
        private int v = 0;

        int perform(int itsKind, int itsNumber, int itsV, int act, int x) {
            ran = 0;
            kind = itsKind;
            number = itsNumber;
            v = itsV;
            switch (act) {
                case 0: return takesAs(kind, x);
                case 1: return leavesAs(kind, x);
                default: return tellsAs(kind, x);
            }
        }

        private void begin(int body) {
            if (ran < bodies.length) {
                bodies[ran] = body;
            }
            ran++;
        }

        // super goes up the KINDS, and an act asks those ahead of it alone: so these calls end.

        private int takesAs(int from, int x) {
            switch (from) {
                case POLITE:
                case NEW:
                    begin(30);
                    return takesAs(TAKER, x * 3);
                case GREEDY:
                    begin(50);
                    return -takesAs(HALVER, x);
                case TOLD:
                    begin(71);
                    return takesAs(PROUD, x) ^ v;
                default:
                    begin(10);
                    return x + number;
            }
        }

        private int leavesAs(int from, int x) {
            switch (from) {
                case HALVER:
                    begin(20);
                    return leavesAs(TAKER, x) ^ 6;
                case GREEDY:
                    begin(51);
                    return leavesAs(HALVER, x + 1);
                case TOLD:
                    begin(70);
                    int left = leavesAs(PROUD, x);
                    return left + takesAs(PROUD, 2);
                default:
                    begin(11);
                    return takesAs(kind, x) - v;
            }
        }

        private int tellsAs(int from, int x) {
            switch (from) {
                case PROUD:
                case TOLD:
                    begin(40);
                    int told = tellsAs(TAKER, x);
                    return told + leavesAs(kind, 1);
                case NEW:
                    begin(60);
                    return tellsAs(POLITE, x - number);
                default:
                    begin(12);
                    return leavesAs(kind, x) * 2;
            }
        }
    }

    /** A TAPE: nothing, or a row of a sort, its items as an item of that sort holds them. */
    private static final class Tape {
        static final int NO_ROW = -1, BYTES = 0, SHORTS = 1, INTS = 2, LONGS = 3, BOOLEANS = 4;

        int sort = NO_ROW;
        int size = 0;
        final long[] items = new long[MOST_ITEMS];

        void become(int itsSort, int n) {
            sort = itsSort;
            size = n;
            Arrays.fill(items, 0L);
        }

        long narrowed(long v) {
            switch (sort) {
                case BYTES: return (byte) v;
                case SHORTS: return (short) v;
                case INTS: return (int) v;
                case LONGS: return v;
                default: return v != 0 ? 1 : 0;
            }
        }
    }
}

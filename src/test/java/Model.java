import java.util.ArrayList;
import java.util.List;
import java.util.regex.Matcher;
import java.util.regex.Pattern;

/** The document once more, written otherwise: kinds are classes, rules are read anew from their text each time. */
final class Model {
    static final long NO = Long.MIN_VALUE;
    private static final Pattern RULE = pattern();

    private State now = new State();
    private State image = null;
    private StringBuilder text = new StringBuilder();
    private int rules = 0;
    private List<Integer> bodies = new ArrayList<>();
    private final Object[] tapes = new Object[6];

    // ---- rules

    private static Pattern pattern() {
        String test = "[pkvgdf][<=>][0-9][0-9]?";
        String factor = test;
        for (int depth = 0; depth < 4; depth++) {
            factor = "(?:" + test + "|!" + factor + "|\\(" + either(factor) + "\\))";
        }
        String e = either(factor);
        String clause = "(?:(?:want|pay) [0-9][0-9]? " + e + "|(?:least|full) [0-9][0-9]?)";
        return Pattern.compile(clause + "(?:;" + clause + "){0,9}");
    }

    private static String either(String factor) {
        return "(?:" + factor + "(?:[&|]" + factor + ")*)";
    }

    /** -1: the text is a rule; else its fault. A text begins a rule if more of it could make it match. */
    static int fault(String text) {
        if (RULE.matcher(text).matches()) {
            return -1;
        }
        for (int n = 1; n <= text.length(); n++) {
            Matcher m = RULE.matcher(text.substring(0, n));
            if (!m.matches() && !m.hitEnd()) {
                return n - 1;
            }
        }
        return text.length();
    }

    private static final class Eval {
        final String s;
        final Taker t;
        final State state;
        int at = 0;

        Eval(String s, Taker t, State state) {
            this.s = s;
            this.t = t;
            this.state = state;
        }

        boolean is(char c) {
            boolean is = at < s.length() && s.charAt(at) == c;
            if (is) {
                at++;
            }
            return is;
        }

        boolean e() {
            boolean left = t();
            if (is('|')) {
                boolean right = e();
                return left || right;
            }
            return left;
        }

        boolean t() {
            boolean left = f();
            if (is('&')) {
                boolean right = t();
                return left && right;
            }
            return left;
        }

        boolean f() {
            if (is('!')) {
                return !f();
            }
            if (is('(')) {
                boolean e = e();
                at++;
                return e;
            }
            char letter = s.charAt(at);
            char sign = s.charAt(at + 1);
            at += 2;
            int from = at;
            while (at < s.length() && Character.isDigit(s.charAt(at))) {
                at++;
            }
            int n = Integer.parseInt(s.substring(from, at));
            int is = letter == 'p' ? t.p : letter == 'k' ? t.kind() : letter == 'v' ? t.v
                : letter == 'g' ? state.grains / 10 : letter == 'd' ? state.day % 7 : t.fetches % 100;
            return sign == '<' ? is < n : sign == '>' ? is > n : is == n;
        }
    }

    // ---- how all is

    static final class State {
        List<Taker> takers = new ArrayList<>();
        int grains = 100;
        int day = 0;
        String rule = "";
        List<int[]> seen = new ArrayList<>();
        List<Integer> book = new ArrayList<>();
        int otherLeast = -1;
        int otherFull = -1;

        State copy() {
            State s = new State();
            for (Taker t : takers) {
                Taker c = Taker.of(t.kind(), t.p, t.v, t.portion);
                c.cups = t.cups;
                c.fetches = t.fetches;
                c.coins = t.coins;
                c.row = t.row.clone();
                s.takers.add(c);
            }
            s.grains = grains;
            s.day = day;
            s.rule = rule;
            s.seen = new ArrayList<>(seen);
            s.book = new ArrayList<>(book);
            return s;
        }

        int last(String word, int without) {
            int n = without;
            for (String clause : rule.split(";")) {
                String[] parts = clause.split(" ");
                if (parts[0].equals(word)) {
                    n = Integer.parseInt(parts[1]);
                }
            }
            return n;
        }

        int least() {
            return otherLeast >= 0 ? otherLeast : last("least", 5);
        }

        int full() {
            return otherFull >= 0 ? otherFull : 10 * last("full", 20);
        }

        int all(String word, Taker t) {
            int n = 0;
            for (String clause : rule.split(";")) {
                String[] parts = clause.split(" ");
                if (parts[0].equals(word) && new Eval(parts[2], t, this).e()) {
                    n += Integer.parseInt(parts[1]);
                }
            }
            return n;
        }

        int wants(Taker t) {
            return t.portion + all("want", t);
        }

        int[] taking(Taker t) {
            int wants = wants(t);
            if (t.first(this, wants)) {
                fetch(t);
            }
            int took = Math.min(grains, t.amount(this, wants));
            t.cups += took >= 1 ? 1 : 0;
            grains -= took;
            int left = grains;
            if (grains < least()) {
                fetch(t);
            }
            return new int[] {took, left};
        }

        void fetch(Taker t) {
            t.coins += all("pay", t);
            grains = full();
            t.fetches++;
        }

        void goDay(List<Taker> order) {
            for (Taker t : order) {
                taking(t);
            }
            day++;
        }

        int fetches() {
            return takers.stream().mapToInt(t -> t.fetches).sum();
        }

        int coins() {
            return takers.stream().mapToInt(t -> t.coins).sum();
        }

        State go(int n) {
            for (int i = 0; i < n; i++) {
                goDay(takers);
            }
            return this;
        }
    }

    private static final List<Integer> RAN = new ArrayList<>();

    /** TAKER, and above all others. */
    static class Taker {
        int p;
        int v;
        int portion;
        int cups;
        int fetches;
        int coins;
        int[] row = new int[4];

        static Taker of(int kind, int p, int v, int portion) {
            Taker t = switch (kind) {
                case 0 -> new Taker();
                case 1 -> new Halver();
                case 2 -> new Polite();
                case 3 -> new Proud();
                case 4 -> new Greedy();
                case 5 -> new New();
                default -> new Told();
            };
            t.p = p;
            t.v = v;
            t.portion = portion;
            return t;
        }

        static Class<?> classOf(int kind) {
            return of(kind, 0, 0, 0).getClass();
        }

        int kind() {
            return 0;
        }

        boolean first(State s, int wants) {
            return false;
        }

        int amount(State s, int wants) {
            return Math.max(0, Math.min(wants, s.grains - s.least()));
        }

        int takes(int x) {
            RAN.add(10);
            return x + p;
        }

        int leaves(int x) {
            RAN.add(11);
            return takes(x) - v;
        }

        int tells(int x) {
            RAN.add(12);
            return leaves(x) * 2;
        }
    }

    static class Halver extends Taker {
        @Override
        int kind() {
            return 1;
        }

        @Override
        int amount(State s, int wants) {
            return Math.min(s.grains / 2, wants);
        }

        @Override
        int leaves(int x) {
            RAN.add(20);
            return super.leaves(x) ^ 6;
        }
    }

    static class Polite extends Taker {
        @Override
        int kind() {
            return 2;
        }

        @Override
        int amount(State s, int wants) {
            return super.amount(s, s.grains < 2 * wants ? wants / 2 : wants);
        }

        @Override
        int takes(int x) {
            RAN.add(30);
            return super.takes(x * 3);
        }
    }

    static class Proud extends Taker {
        @Override
        int kind() {
            return 3;
        }

        @Override
        boolean first(State s, int wants) {
            return s.grains < wants + s.least();
        }

        @Override
        int tells(int x) {
            RAN.add(40);
            return super.tells(x) + leaves(1);
        }
    }

    static final class Greedy extends Halver {
        @Override
        int kind() {
            return 4;
        }

        @Override
        int amount(State s, int wants) {
            return super.amount(s, 2 * wants);
        }

        @Override
        int takes(int x) {
            RAN.add(50);
            return -super.takes(x);
        }

        @Override
        int leaves(int x) {
            RAN.add(51);
            return super.leaves(x + 1);
        }
    }

    static final class New extends Polite {
        @Override
        int kind() {
            return 5;
        }

        @Override
        int amount(State s, int wants) {
            return wants;
        }

        @Override
        int tells(int x) {
            RAN.add(60);
            return super.tells(x - p);
        }
    }

    static final class Told extends Proud {
        @Override
        int kind() {
            return 6;
        }

        @Override
        boolean first(State s, int wants) {
            return s.grains < 10 * row[s.day % 4];
        }

        @Override
        int leaves(int x) {
            RAN.add(70);
            return super.leaves(x) + super.takes(2);
        }

        @Override
        int takes(int x) {
            RAN.add(71);
            return super.takes(x) ^ v;
        }
    }

    // ---- the calls

    private Taker one(int taker) {
        return taker >= 0 && taker < now.takers.size() ? now.takers.get(taker) : null;
    }

    private static boolean in(int n, int from, int to) {
        return from <= n && n <= to;
    }

    int taker(int kind, int v, int portion) {
        if (!in(kind, 0, 6)) {
            return -1;
        }
        if (!in(v, 0, 9) || !in(portion, 1, 60)) {
            return -2;
        }
        if (now.takers.size() == 6) {
            return -4;
        }
        now.takers.add(Taker.of(kind, now.takers.size(), v, portion));
        return now.takers.size() - 1;
    }

    int of(int taker, int what) {
        Taker t = one(taker);
        if (t == null || !in(what, 0, 7)) {
            return -1;
        }
        return new int[] {t.kind(), t.v, t.portion, t.cups, t.fetches, t.coins, now.wants(t), now.all("pay", t)}[what];
    }

    int portion(int taker, int n) {
        Taker t = one(taker);
        if (t == null) {
            return -1;
        }
        if (!in(n, 1, 60)) {
            return -2;
        }
        int was = t.portion;
        t.portion = n;
        return was;
    }

    int fill(int n) {
        if (!in(n, 0, 990)) {
            return -2;
        }
        int was = now.grains;
        now.grains = n;
        return was;
    }

    int row(int taker, int part, int n) {
        Taker t = one(taker);
        if (t == null || !in(part, 0, 3)) {
            return -1;
        }
        if (!in(n, 0, 9)) {
            return -2;
        }
        if (!(t instanceof Told)) {
            return -3;
        }
        int was = t.row[part];
        t.row[part] = n;
        return was;
    }

    int feed(int sign) {
        if (!in(sign, 0, 127)) {
            return -2;
        }
        if (text.length() == 100) {
            return -4;
        }
        return text.append((char) sign).length();
    }

    int rule() {
        if (rules == 6) {
            return -4;
        }
        String read = text.toString();
        text = new StringBuilder();
        int fault = fault(read);
        if (fault >= 0) {
            return -10 - fault;
        }
        now.rule = read;
        return rules++;
    }

    int told(int what) {
        return in(what, 0, 4) ? new int[] {now.grains, now.day, now.least(), now.full(), now.fetches()}[what] : -1;
    }

    int takes(int taker) {
        return one(taker) == null ? -1 : now.taking(one(taker))[0];
    }

    int day() {
        int before = now.fetches();
        return now.day == 9999 ? -3 : now.go(1).fetches() - before;
    }

    int on(int n, int what) {
        boolean all = in(what, 0, 2);
        Taker cups = one(what - 10);
        Taker fetches = one(what - 20);
        if (!all && cups == null && fetches == null) {
            return -1;
        }
        if (!in(n, 0, 60)) {
            return -2;
        }
        State s = now.copy().go(n);
        if (all) {
            return new int[] {s.grains, s.fetches() - now.fetches(), s.coins() - now.coins()}[what];
        }
        return cups != null ? s.takers.get(cups.p).cups - cups.cups : s.takers.get(fetches.p).fetches - fetches.fetches;
    }

    int would(int taker, int what) {
        if (one(taker) == null || !in(what, 0, 2)) {
            return -1;
        }
        State s = now.copy();
        int took = s.taking(s.takers.get(taker))[0];
        return new int[] {took, s.grains, s.fetches() - now.fetches()}[what];
    }

    int next(int what) {
        if (!in(what, 0, 1)) {
            return -1;
        }
        State s = now.copy();
        for (int t = 0; t < 60 * s.takers.size(); t++) {
            s.taking(s.takers.get(t % s.takers.size()));
            if (s.fetches() > now.fetches()) {
                return what == 0 ? t % s.takers.size() : t / s.takers.size();
            }
            if ((t + 1) % s.takers.size() == 0) {
                s.day++;
            }
        }
        return -5;
    }

    private int better(int n, int what, boolean least) {
        if (!in(what, 0, 1)) {
            return -1;
        }
        if (!in(n, 1, 10)) {
            return -2;
        }
        int[] best = null;
        for (int c = least ? 20 : 300; c >= (least ? 0 : 10); c -= least ? 1 : 10) {
            State s = now.copy();
            if (least) {
                s.otherLeast = c;
            } else {
                s.otherFull = c;
            }
            int cost = (s.go(n).fetches() - now.fetches()) * (least ? 1 : c / 10 + 9);
            if (best == null || cost <= best[1]) {
                best = new int[] {c, cost};
            }
        }
        return best[what];
    }

    int least(int n, int what) {
        return better(n, what, true);
    }

    int full(int n, int what) {
        return better(n, what, false);
    }

    int order(int k) {
        if (!in(k, -1, 4)) {
            return -1;
        }
        if (now.takers.size() == 6) {
            return -9;
        }
        List<List<Integer>> rows = new ArrayList<>();
        rows(new ArrayList<>(), rows);
        int most = -1;
        List<Integer> best = null;
        for (List<Integer> row : rows) {
            State s = now.copy();
            int sum = 0;
            for (int p : row) {
                sum += s.taking(s.takers.get(p))[0];
            }
            if (sum > most) {
                most = sum;
                best = row;
            }
        }
        return k < 0 ? most : k < best.size() ? best.get(k) : -5;
    }

    private void rows(List<Integer> begun, List<List<Integer>> rows) {
        if (begun.size() == now.takers.size()) {
            rows.add(new ArrayList<>(begun));
        }
        for (int p = 0; p < now.takers.size(); p++) {
            if (!begun.contains(p)) {
                begun.add(p);
                rows(begun, rows);
                begun.remove(begun.size() - 1);
            }
        }
    }

    int without(int taker, int n) {
        if (one(taker) == null) {
            return -10001;
        }
        if (!in(n, 0, 30)) {
            return -10002;
        }
        State s = now.copy();
        int gone = s.takers.remove(taker).fetches;
        return now.copy().go(n).fetches() - s.go(n).fetches() - gone;
    }

    int few(int g, int what) {
        if (!in(what, 0, 1)) {
            return -1;
        }
        if (!in(g, 0, 99)) {
            return -2;
        }
        State s = now.copy();
        for (int t = 0; t < 300; s.day++) {
            for (Taker one : s.takers) {
                int left = s.taking(one)[1];
                if (t < 300 && in(left, 1, g)) {
                    return what == 0 ? t : one.p;
                }
                t++;
            }
            t += s.takers.isEmpty() ? 300 : 0;
        }
        return -5;
    }

    int pitied(int n) {
        if (!in(n, 1, 60)) {
            return -2;
        }
        State s = now.copy().go(n);
        int best = -5;
        double most = -1;
        for (Taker t : now.takers) {
            Taker then = s.takers.get(t.p);
            double fraction = (double) (then.fetches - t.fetches) / (then.cups - t.cups + 1);
            if (fraction > most + 1e-9) {
                most = fraction;
                best = t.p;
            }
        }
        return best;
    }

    int see(int found, int left) {
        if (found == -1) {
            now.seen.clear();
            return 0;
        }
        if (!in(found, 0, 990) || !in(left, 0, 990)) {
            return -2;
        }
        if (now.seen.size() == 6) {
            return -4;
        }
        now.seen.add(new int[] {found, left});
        return now.seen.size();
    }

    int who() {
        int bits = 0;
        for (Taker t : now.takers) {
            boolean all = true;
            for (int[] seen : now.seen) {
                State s = now.copy();
                s.grains = seen[0];
                s.taking(s.takers.get(t.p));
                all &= s.grains == seen[1];
            }
            bits += all ? 1 << t.p : 0;
        }
        return bits;
    }

    private static long gcd(long a, long b) {
        return b == 0 ? a : gcd(b, a % b);
    }

    long odds(int taker, int n, int part) {
        if (one(taker) == null || !in(n, 0, 30) || !in(part, 0, 1)) {
            return NO;
        }
        long above = 0;
        for (Taker first : now.takers) {
            State s = now.copy();
            List<Taker> order = new ArrayList<>(s.takers);
            order.add(0, order.remove(first.p));
            for (int d = 0; d < n; d++) {
                s.goDay(order);
            }
            above += s.takers.get(taker).fetches > one(taker).fetches ? 1 : 0;
        }
        long below = now.takers.size();
        return (part == 0 ? above : below) / gcd(above, below);
    }

    long mean(int n, int part) {
        if (!in(n, 1, 60) || !in(part, 0, 1)) {
            return NO;
        }
        State s = now.copy();
        long above = 0;
        for (int d = 0; d < n; d++) {
            above += s.go(1).grains;
        }
        return (part == 0 ? above : n) / gcd(above, n);
    }

    int book(int n) {
        if (n == -1) {
            now.book.clear();
            return 0;
        }
        if (!in(n, 0, 999)) {
            return -2;
        }
        if (now.book.size() == 12) {
            return -4;
        }
        now.book.add(n);
        return now.book.size();
    }

    int looked() {
        State s = now.copy();
        for (int d = 0; d < now.book.size(); d++) {
            if (s.go(1).grains != now.book.get(d)) {
                return d;
            }
        }
        return -5;
    }

    int judge(int tape, int i) {
        if (!in(tape, 0, 5)) {
            return -1;
        }
        if (tapes[tape] != null && !(tapes[tape] instanceof int[])) {
            return -12;
        }
        int[] row = tapes[tape] == null ? new int[0] : (int[]) tapes[tape];
        for (Taker t : now.takers) {
            if (i < 0 || (long) i + t.p >= row.length) {
                return 100 + t.p;
            }
            if (row[i + t.p] != t.fetches) {
                return t.p;
            }
        }
        return -5;
    }

    int image() {
        image = now.copy();
        return now.takers.size();
    }

    int undo() {
        if (image == null) {
            return -3;
        }
        now = image.copy();
        return now.takers.size();
    }

    int act(int taker, int act, int x) {
        RAN.clear();
        int answer = 0;
        if (one(taker) != null && in(act, 0, 2)) {
            Taker t = one(taker);
            answer = act == 0 ? t.takes(x) : act == 1 ? t.leaves(x) : t.tells(x);
        }
        bodies = new ArrayList<>(RAN);
        return answer;
    }

    int trace(int i) {
        return in(i, 0, Math.min(20, bodies.size()) - 1) ? bodies.get(i) : -1;
    }

    int taken(int taker, int k) {
        if (!in(k, 0, 6)) {
            return -2;
        }
        if (one(taker) == null) {
            return -11;
        }
        return Taker.classOf(k).isInstance(one(taker)) ? one(taker).kind() : -12;
    }

    int count(int what) {
        return in(what, 0, 5) ? new int[] {now.takers.size(), rules, now.seen.size(), now.book.size(),
            text.length(), bodies.size()}[what] : -2;
    }

    int tape(int tape, int sort, int n) {
        if (!in(tape, 0, 5)) {
            return -1;
        }
        if (sort == -1) {
            tapes[tape] = null;
            return 1;
        }
        if (!in(sort, 0, 4) || n > 60) {
            return -2;
        }
        if (n < 0) {
            return -14;
        }
        Class<?>[] sorts = {byte.class, short.class, int.class, long.class, boolean.class};
        tapes[tape] = java.lang.reflect.Array.newInstance(sorts[sort], n);
        return 1;
    }

    int item(int tape, int i, long v) {
        if (!in(tape, 0, 5)) {
            return -1;
        }
        Object row = tapes[tape];
        if (row == null) {
            return -11;
        }
        if (!in(i, 0, java.lang.reflect.Array.getLength(row) - 1)) {
            return -13;
        }
        if (row instanceof byte[] bytes) {
            bytes[i] = (byte) v;
        } else if (row instanceof short[] shorts) {
            shorts[i] = (short) v;
        } else if (row instanceof int[] ints) {
            ints[i] = (int) v;
        } else if (row instanceof long[] longs) {
            longs[i] = v;
        } else if (row instanceof boolean[] booleans) {
            booleans[i] = v != 0;
        }
        return 1;
    }

    long read(int tape, int i) {
        if (!in(tape, 0, 5) || tapes[tape] == null || !in(i, 0, java.lang.reflect.Array.getLength(tapes[tape]) - 1)) {
            return NO;
        }
        Object item = java.lang.reflect.Array.get(tapes[tape], i);
        return item instanceof Boolean b ? (b ? 1 : 0) : ((Number) item).longValue();
    }

    int shift(int tape, int i, int other, int j, int n) {
        if (!in(tape, 0, 5) || !in(other, 0, 5)) {
            return -1;
        }
        if (tapes[tape] == null || tapes[other] == null) {
            return -11;
        }
        if (tapes[tape].getClass() != tapes[other].getClass()) {
            return -12;
        }
        try {
            System.arraycopy(tapes[tape], i, tapes[other], j, n);
        } catch (IndexOutOfBoundsException e) {
            return -13;
        }
        return n;
    }
}

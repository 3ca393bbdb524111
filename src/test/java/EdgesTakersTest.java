import java.io.IOException;
import java.util.function.Supplier;

/** Edges of promises 1 to 7 and 9: a new object, taker, of, portion, fill, row, feed, told. */
public final class EdgesTakersTest {
    private static final int MIN = Integer.MIN_VALUE;
    private static final int MAX = Integer.MAX_VALUE;
    private final Edges e = new Edges("EdgesTakersTest");

    private EdgesTakersTest() throws IOException {
    }

    public static void main(String[] args) throws IOException {
        EdgesTakersTest test = new EdgesTakersTest();
        test.newObject();
        test.newTaker();
        test.takerNumbers();
        test.taker();
        test.ofWhat();
        test.wantsAndPay();
        test.whatTestsAsk();
        test.howTestsCompare();
        test.howTestsJoin();
        test.portion();
        test.fill();
        test.row();
        test.feed();
        test.told();
        test.leastAndFull();
        test.e.end(1, 2, 3, 4, 5, 6, 7, 9);
    }

    private static LittleLeft six() {
        return Whole.with(x -> x.taker(0, 0, 60));
    }

    private void newObject() {
        e.edge(1, "Nobody, no RULE.");
        LittleLeft x = new LittleLeft();
        e.in("nobody: count(0)", x.count(0), 0);
        e.in("nobody: of(0, 0)", x.of(0, 0), -1);
        e.in("no RULE: count(1)", x.count(1), 0);
        x.taker(0, 0, 1);
        e.out("somebody: count(0)", x.count(0), 1);
        e.out("somebody: of(0, 0)", x.of(0, 0), 0);
        Check.rule(x, "full 1");
        e.out("a RULE: count(1)", x.count(1), 1);

        e.edge(1, "GRAINS (0 .. 990; 100 at first)");
        e.in("a new one's told(0)", new LittleLeft().told(0), 100);
        x.fill(99);
        e.out("told(0) when filled", x.told(0), 99);

        e.edge(1, "DAY: 0 at first.");
        e.in("a new one's told(1)", new LittleLeft().told(1), 0);
        x.day();
        e.out("told(1) a DAY later", x.told(1), 1);

        e.edge(1, "without one there are no CLAUSES");
        LittleLeft one = Check.kitchen("", 0, Check.a(0, 0, 7));
        e.in("WANTS without", one.of(0, 6), 7);
        e.in("PAY without", one.of(0, 7), 0);
        Check.rule(one, "want 1 g=0;pay 1 g=0");
        e.out("WANTS with", one.of(0, 6), 8);
        e.out("PAY with", one.of(0, 7), 1);
    }

    private void newTaker() {
        e.edge(2, "CUPS, FETCHES, COINS (0 at first)");
        LittleLeft x = Check.kitchen("pay 3 p<9", 4, Check.a(5, 0, 1));
        x.takes(0);
        x.taker(5, 0, 1);
        for (int what = 3; what <= 5; what++) {
            e.in("a new one's of(1, " + what + ")", x.of(1, what), 0);
        }
        e.out("of(0, 3) of one that took", x.of(0, 3), 1);
        e.out("of(0, 4) of one that FETCHED", x.of(0, 4), 1);
        e.out("of(0, 5) of one that FETCHED", x.of(0, 5), 3);
    }

    private void takerNumbers() {
        e.edge(2, "TAKERS 0 .. 5, as they come");
        LittleLeft x = new LittleLeft();
        for (int p = 0; p < 6; p++) {
            e.out("of(" + p + ", 0) ahead of it", x.of(p, 0), -1);
            e.in("taker " + p, x.taker(p, p, p + 1), p);
            e.in("of(" + p + ", 0)", x.of(p, 0), p);
        }
        e.out("of(6, 0)", x.of(6, 0), -1);

        e.edge(2, "FULL: 6.");
        LittleLeft five = Whole.kitchen();
        e.in("a sixth", five.taker(0, 0, 60), 5);
        e.refused("a seventh", EdgesTakersTest::six, y -> y.taker(0, 0, 60), -4);
        e.refused("a seventh of no KIND", EdgesTakersTest::six, y -> y.taker(7, 0, 60), -1);
        e.refused("a seventh, v 10", EdgesTakersTest::six, y -> y.taker(0, 10, 60), -2);
        e.refused("a seventh, PORTION 61", EdgesTakersTest::six, y -> y.taker(0, 0, 61), -2);
    }

    private void taker() {
        e.edge(2, "NONE: kind; BAD: v, portion; FULL: 6.");
        LittleLeft x = new LittleLeft();
        e.in("taker(0, 0, 1)", x.taker(0, 0, 1), 0);
        e.in("taker(6, 9, 60)", x.taker(6, 9, 60), 1);
        for (int kind : new int[] {-1, 7, MIN, MAX}) {
            e.refused("taker(" + kind + ", 0, 1)", y -> y.taker(kind, 0, 1), -1);
            e.refused("taker(" + kind + ", 10, 61)", y -> y.taker(kind, 10, 61), -1);
        }

        e.edge(2, "with a number v (0 .. 9), a PORTION (1 .. 60)");
        e.in("v 0", x.of(0, 1), 0);
        e.in("v 9", x.of(1, 1), 9);
        e.in("PORTION 1", x.of(0, 2), 1);
        e.in("PORTION 60", x.of(1, 2), 60);
        for (int v : new int[] {-1, 10, MIN, MAX}) {
            e.refused("taker(0, " + v + ", 1)", y -> y.taker(0, v, 1), -2);
        }
        for (int portion : new int[] {0, -1, 61, MIN, MAX}) {
            e.refused("taker(6, 9, " + portion + ")", y -> y.taker(6, 9, portion), -2);
        }
    }

    private void ofWhat() {
        e.edge(3, "Of a TAKER what 0 KIND, 1 v, 2 PORTION, 3 CUPS, 4 FETCHES, 5 COINS, 6 WANTS, 7 PAY now.");
        LittleLeft x = Check.kitchen("pay 99 p=0", 0, Check.a(4, 2, 3));
        e.in("of(0, 0)", x.of(0, 0), 4);
        e.in("of(0, 7)", x.of(0, 7), 99);
        for (int what : new int[] {-1, 8, MIN, MAX}) {
            e.refused("of(0, " + what + ")", y -> y.of(0, what), -1);
        }

        e.edge(3, "NONE.");
        LittleLeft six = six();
        e.in("of(0, 2)", six.of(0, 2), 20);
        e.in("of(5, 2)", six.of(5, 2), 60);
        for (int taker : new int[] {-1, 6, MIN, MAX}) {
            e.refused("of(" + taker + ", 2)", EdgesTakersTest::six, y -> y.of(taker, 2), -1);
        }
        e.out("of(0, 2) of nobody", new LittleLeft().of(0, 2), -1);
        e.refused("of(5, 2) of five", y -> y.of(5, 2), -1);
    }

    private void wantsAndPay() {
        e.edge(3, "WANTS of a TAKER: PORTION, and the n of all want whose E holds, together.");
        String want = "want 99 p<1";
        LittleLeft x = Check.kitchen((want + ";").repeat(7) + want, 0, Check.a(0, 0, 60), Check.a(0, 0, 60));
        e.in("eight hold, 99 each", x.of(0, 6), 60 + 8 * 99);
        e.out("none holds", x.of(1, 6), 60);

        e.edge(3, "PAY of it: of all pay likewise (no PORTION).");
        String pay = "pay 99 p<1";
        LittleLeft y = Check.kitchen((pay + ";").repeat(8) + pay, 0, Check.a(0, 0, 60), Check.a(0, 0, 60));
        e.in("nine hold, 99 each", y.of(0, 7), 9 * 99);
        e.out("none holds", y.of(1, 7), 0);
    }

    private void whatTestsAsk() {
        e.edge(3, "of a TAKER p its number, k its KIND, v its number v");
        LittleLeft x = Check.kitchen("want 1 p=0;want 2 p=5;want 10 k=0;want 20 k=6;pay 1 v=0;pay 9 v=9", 0,
            Check.a(0, 9, 1), Check.a(1, 1, 1), Check.a(2, 1, 1), Check.a(3, 8, 1), Check.a(5, 1, 1), Check.a(6, 0, 1));
        e.in("p=0 and k=0 of the first", x.of(0, 6), 12);
        e.in("p=5 and k=6 of the sixth", x.of(5, 6), 23);
        e.in("v=9 of the first", x.of(0, 7), 9);
        e.in("v=0 of the sixth", x.of(5, 7), 1);
        for (int p = 1; p < 5; p++) {
            e.out("of(" + p + ", 6)", x.of(p, 6), 1);
            e.out("of(" + p + ", 7)", x.of(p, 7), 0);
        }

        e.edge(3, "g GRAINS by 10 (cut)");
        LittleLeft g = Check.kitchen("want 1 g=0;want 2 g=1;want 5 g=98;want 9 g=99", 0, Check.a(0, 0, 1));
        int[][] grains = {{0, 1}, {9, 1}, {10, 2}, {19, 2}, {980, 5}, {989, 5}, {990, 9}};
        for (int[] one : grains) {
            g.fill(one[0]);
            e.in("GRAINS " + one[0], g.of(0, 6), 1 + one[1]);
        }
        g.fill(20);
        e.out("GRAINS 20", g.of(0, 6), 1);
        g.fill(979);
        e.out("GRAINS 979", g.of(0, 6), 1);

        e.edge(3, "d DAY modulo 7");
        LittleLeft d = Check.kitchen("want 1 d=6;want 2 d=0;want 4 d>6", 990, Check.a(0, 0, 1));
        for (int day = 0; day < 22; day++) {
            int of7 = day % 7;
            if (of7 == 6 || of7 == 0) {
                e.in("DAY " + day, d.of(0, 6), of7 == 6 ? 2 : 3);
            } else {
                e.out("DAY " + day, d.of(0, 6), 1);
            }
            d.day();
        }

        e.edge(3, "f its FETCHES modulo 100");
        LittleLeft f = Check.kitchen("full 0;want 1 f=99;want 2 f=0;want 4 f>99", 0, Check.a(3, 0, 1), Check.a(0, 0, 1));
        for (int fetches = 0; fetches <= 202; fetches += 2) {
            if (fetches % 100 == 0) {
                e.in("FETCHES " + fetches, f.of(0, 6), 3);
            } else {
                e.out("FETCHES " + fetches, f.of(0, 6), 1);
            }
            if (fetches == 98) {
                e.in("FETCHES 99", ninetyNine().of(0, 6), 2);
            }
            f.takes(0);
        }
    }

    /** One by whom, as each FETCH leaves nothing, each TAKING is a FETCH. */
    private static LittleLeft ninetyNine() {
        LittleLeft x = Check.kitchen("full 0;want 1 f=99;want 2 f=0", 0, Check.a(0, 0, 1));
        for (int i = 0; i < 99; i++) {
            x.takes(0);
        }
        return x;
    }

    private void howTestsCompare() {
        e.edge(3, "a letter, < or = or >, a number (1 or 2 digits)");
        int[][] held = {{'<', 4, 1}, {'<', 5, 0}, {'<', 6, 0}, {'=', 4, 0}, {'=', 5, 1}, {'=', 6, 0},
            {'>', 4, 0}, {'>', 5, 0}, {'>', 6, 1}};
        for (int[] one : held) {
            for (String n : new String[] {"5", "05"}) {
                String test = "v" + (char) one[0] + n;
                LittleLeft x = Check.kitchen("want 1 " + test, 0, Check.a(0, one[1], 1));
                String call = test + " of v " + one[1];
                if (one[2] == 1) {
                    e.in(call, x.of(0, 6), 2);
                } else {
                    e.out(call, x.of(0, 6), 1);
                }
            }
        }
        LittleLeft x = Check.kitchen("want 1 g<99;want 2 g>98;want 4 g<0;want 8 g>00", 0, Check.a(0, 0, 1));
        e.in("g<99 of 0", x.of(0, 6), 2);
        x.fill(990);
        e.out("g>98 and g>00, but not g<99, of 99", x.of(0, 6), 11);
    }

    /** Of six who WANT 1 and, if an E holds, 1 more: which do, as bits. */
    private static int held(String test) {
        LittleLeft x = Check.kitchen("want 1 " + test, 0);
        int bits = 0;
        for (int p = 0; p < 6; p++) {
            x.taker(0, 0, 1);
            bits |= (x.of(p, 6) - 1) << p;
        }
        return bits;
    }

    private void howTestsJoin() {
        e.edge(3, "E: T or T|E. T: F or F&T. F: !F, (E), or a TEST");
        e.in("p=0", held("p=0"), 1);
        e.out("!p=0", held("!p=0"), 62);
        e.in("!!!!p=0", held("!!!!p=0"), 1);
        e.out("!!!p=0", held("!!!p=0"), 62);
        e.in("((((p=0))))", held("((((p=0))))"), 1);
        e.out("!(!(p=0))&!p=0", held("!(!(p=0))&!p=0"), 0);
        e.in("& ahead of |", held("p=5|p=0&p<1"), 33);
        e.in("& ahead of |", held("p=0&p<1|p=5"), 33);
        e.out("but not of ( )", held("(p=5|p=0)&p<1"), 1);
        e.in("! ahead of &", held("!p=0&p<2"), 2);
        e.out("but not of ( )", held("!(p=0&p<2)"), 62);
        e.in("the last of 23", held("p=9|".repeat(22) + "p=5"), 32);
        e.in("the first of 23", held("p=5" + "|p=9".repeat(22)), 32);
        e.in("all of 23", held("p<9&".repeat(22) + "p<9"), 63);
        e.out("the last of 23 does not", held("p<9&".repeat(22) + "p<5"), 31);
        e.out("the first of 23 does not", held("p>0" + "&p<9".repeat(22)), 62);
        e.in("within one another", held("p=5|(p<4&(p=0|(p>1&(p=2|p=4))))"), 37);
    }

    private void portion() {
        e.edge(4, "PORTION of a TAKER becomes n: what it was.");
        LittleLeft x = six();
        e.in("portion(5, 1)", x.portion(5, 1), 60);
        e.in("of(5, 2)", x.of(5, 2), 1);
        e.in("portion(5, 60)", x.portion(5, 60), 1);
        e.in("portion(0, 60)", x.portion(0, 60), 20);
        e.out("of(1, 2) of another", x.of(1, 2), 30);

        e.edge(4, "NONE; BAD.");
        e.in("portion(0, 60) again", x.portion(0, 60), 60);
        for (int n : new int[] {0, -1, 61, MIN, MAX}) {
            e.refused("portion(0, " + n + ")", y -> y.portion(0, n), -2);
        }
        for (int taker : new int[] {-1, 5, 6, MIN, MAX}) {
            e.refused("portion(" + taker + ", 1)", y -> y.portion(taker, 1), -1);
            e.refused("portion(" + taker + ", 61)", y -> y.portion(taker, 61), -1);
        }
        e.out("portion(0, 1) of nobody", new LittleLeft().portion(0, 1), -1);
    }

    private void fill() {
        e.edge(5, "GRAINS become n (0 .. 990): what they were. BAD.");
        LittleLeft x = Whole.kitchen();
        int before = x.told(0);
        e.in("fill(0)", x.fill(0), before);
        e.in("told(0)", x.told(0), 0);
        e.in("fill(990)", x.fill(990), 0);
        e.in("told(0)", x.told(0), 990);
        e.in("fill(990) again", x.fill(990), 990);
        for (int n : new int[] {-1, 991, MIN, MAX}) {
            e.refused("fill(" + n + ")", y -> y.fill(n), -2);
        }
    }

    private void row() {
        e.edge(6, "The ROW of a TOLD one becomes n for DAYS modulo 4 being part: what it was.");
        LittleLeft x = Check.kitchen("", 100, Check.a(6, 0, 1), Check.a(6, 0, 1));
        for (int part = 0; part < 4; part++) {
            e.in("row(1, " + part + ", 9)", x.row(1, part, 9), 0);
            e.in("row(1, " + part + ", 0)", x.row(1, part, 0), 9);
            e.in("row(1, " + part + ", ..)", x.row(1, part, part + 1), 0);
        }
        for (int part = 0; part < 4; part++) {
            e.in("row(1, " + part + ", 0) of its own", x.row(1, part, 0), part + 1);
            e.out("row(0, " + part + ", 0) of another", x.row(0, part, 0), 0);
        }

        e.edge(6, "NONE: taker, part; BAD: n (0 .. 9); STATE: another KIND.");
        e.in("row(0, 0, 0)", x.row(0, 0, 0), 0);
        e.in("row(0, 3, 9)", x.row(0, 3, 9), 0);
        for (int none : new int[] {-1, 4, MIN, MAX}) {
            e.refused("row(0, " + none + ", 0)", y -> y.row(0, none, 0), -1);
            e.refused("row(0, " + none + ", 10)", y -> y.row(0, none, 10), -1);
            e.refused("row(1, " + none + ", 0)", y -> y.row(1, none, 0), -1);
        }
        for (int taker : new int[] {-1, 5, 6, MIN, MAX}) {
            e.refused("row(" + taker + ", 0, 0)", y -> y.row(taker, 0, 0), -1);
            e.refused("row(" + taker + ", 0, 10)", y -> y.row(taker, 0, 10), -1);
        }
        for (int n : new int[] {-1, 10, MIN, MAX}) {
            e.refused("row(0, 0, " + n + ")", y -> y.row(0, 0, n), -2);
            e.refused("row(1, 0, " + n + ")", y -> y.row(1, 0, n), -2);
        }
        for (int kind = 0; kind <= 5; kind++) {
            int itsKind = kind;
            Supplier<LittleLeft> kitchen = () -> Whole.with(y -> y.taker(itsKind, 0, 1));
            e.refused("row(5, 0, 1) of KIND " + kind, kitchen, y -> y.row(5, 0, 1), -3);
        }
        e.in("row(5, 0, 1) of KIND 6", Whole.with(y -> y.taker(6, 0, 1)).row(5, 0, 1), 0);
    }

    private void feed() {
        e.edge(7, "A sign (0 .. 127) comes behind THE TEXT's: how many it has.");
        LittleLeft x = new LittleLeft();
        e.in("feed(0)", x.feed(0), 1);
        e.in("feed(127)", x.feed(127), 2);
        e.in("count(4)", x.count(4), 2);
        for (int sign : new int[] {-1, 128, MIN, MAX}) {
            e.refused("feed(" + sign + ")", y -> y.feed(sign), -2);
        }

        e.edge(7, "THE TEXT (bytes, 100 at most)");
        for (int n = 3; n <= 100; n++) {
            e.in("a sign more", x.feed(n), n);
        }
        // Behind the kitchen's six these are a RULE, so that any other sign among them would be seen.
        String more = ";want 1 " + "p=1|".repeat(20) + "(p=11)";
        Supplier<LittleLeft> hundred = () -> Whole.with(y -> Check.feed(y, more));
        e.in("count(4)", hundred.get().count(4), 100);
        e.refused("feed(0) behind 100", hundred, y -> y.feed(0), -4);
        e.refused("feed(127) behind 100", hundred, y -> y.feed(127), -4);
        e.in("rule() of 100", hundred.get().rule(), 1);

        e.edge(7, "BAD; FULL.");
        e.in("feed(127) behind 99", Whole.with(y -> Check.feed(y, more.substring(1))).feed(127), 100);
        e.refused("feed(128) behind 100", hundred, y -> y.feed(128), -2);
        e.refused("feed(-1) behind 100", hundred, y -> y.feed(-1), -2);
    }

    private void told() {
        e.edge(9, "What 0 GRAINS, 1 DAY, 2 least, 3 FULL, 4 FETCHES of all, together. NONE.");
        LittleLeft x = new LittleLeft();
        e.in("told(0)", x.told(0), 100);
        e.in("told(4) of nobody", x.told(4), 0);
        for (int p = 0; p < 6; p++) {
            x.taker(0, 0, 1);
            x.fill(0);
            x.takes(p);
            e.in("told(4) when " + p + " has FETCHED, too", x.told(4), p + 1);
        }
        for (int what : new int[] {-1, 5, MIN, MAX}) {
            e.refused("told(" + what + ")", y -> y.told(what), -1);
        }
    }

    private void leastAndFull() {
        e.edge(9, "least (5 without): the last one's n; FULL (200 without): 10 times the last full's n.");
        LittleLeft x = new LittleLeft();
        e.in("least without", x.told(2), 5);
        e.in("FULL without", x.told(3), 200);
        String[] rules = {"least 0", "full 0", "least 99;full 99", "full 1;full 2;full 3", "least 9;least 8;least 7"};
        int[][] want = {{0, 200}, {5, 0}, {99, 990}, {5, 30}, {7, 200}};
        for (int i = 0; i < rules.length; i++) {
            e.in(rules[i], Check.rule(x, rules[i]), i);
            e.out("least by " + rules[i], x.told(2), want[i][0]);
            e.out("FULL by " + rules[i], x.told(3), want[i][1]);
        }
        e.in("want 1 p=0", Check.rule(x, "want 1 p=0"), 5);
        e.in("least without, again", x.told(2), 5);
        e.in("FULL without, again", x.told(3), 200);
    }
}

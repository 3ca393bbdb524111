import java.io.IOException;
import java.util.function.Supplier;

/** Edges of promises 28 to 33: image, undo, act, trace, taken, count. */
public final class EdgesActsTest {
    private static final int MIN = Integer.MIN_VALUE;
    private static final int MAX = Integer.MAX_VALUE;
    private static final int HALF = 1 << 30;
    private final Edges e = new Edges("EdgesActsTest");

    private EdgesActsTest() throws IOException {
    }

    public static void main(String[] args) throws IOException {
        EdgesActsTest test = new EdgesActsTest();
        test.image();
        test.undo();
        test.undoToAll();
        test.undoToNobody();
        test.notOfTheImage();
        test.whichActs();
        test.numbersOfTakers();
        test.wrapsOfTaker();
        test.wrapsOfPoliteAndProud();
        test.wrapsOfGreedyAndNew();
        test.wrapsOfTold();
        test.trace();
        test.taken();
        test.count();
        test.countAtMost();
        test.e.end(28, 29, 30, 31, 32, 33);
    }

    private static LittleLeft six() {
        return Whole.with(x -> x.taker(0, 0, 60));
    }

    private void image() {
        e.edge(28, "THE IMAGE is taken: how many TAKERS there are.");
        LittleLeft x = new LittleLeft();
        e.in("image() of nobody", x.image(), 0);
        for (int p = 0; p < 6; p++) {
            x.taker(p, 0, 1);
            e.in("image() of " + (p + 1), x.image(), p + 1);
        }
        e.in("undo() to the newest", x.undo(), 6);
        e.out("a seventh", x.taker(0, 0, 1), -4);
        e.in("image() again", x.image(), 6);
    }

    private void undo() {
        e.edge(29, "All is as THE IMAGE: how many TAKERS. STATE: there is none.");
        LittleLeft x = new LittleLeft();
        e.out("undo() of a new one", x.undo(), -3);
        Supplier<LittleLeft> none = () -> Check.kitchen("least 3;full 9", 33, Check.a(6, 1, 2), Check.a(3, 4, 5));
        e.refused("undo() without", none, y -> y.undo(), -3);
        e.in("image()", x.image(), 0);
        e.in("undo()", x.undo(), 0);
        e.in("undo() again: THE IMAGE stays", x.undo(), 0);
    }

    /** All that THE IMAGE is of, at its most. */
    private static LittleLeft most() {
        LittleLeft x = Check.kitchen("least 9;full 99", 990);
        for (int p = 0; p < 6; p++) {
            x.taker(6 - p, 9 - p, 60 - p);
        }
        for (int part = 0; part < 4; part++) {
            x.row(0, part, 9 - part);
        }
        for (int p = 0; p < 6; p++) {
            x.takes(p);
        }
        x.day();
        for (int n = 1; n <= 6; n++) {
            x.see(600, 540);
        }
        x.fill(990);
        for (int n = 1; n <= 12; n++) {
            x.book(x.on(n, 0));
        }
        x.image();
        return x;
    }

    private static void otherwise(LittleLeft x) {
        x.takes(0);
        x.day();
        x.fill(1);
        for (int p = 0; p < 6; p++) {
            x.portion(p, 1);
        }
        for (int part = 0; part < 4; part++) {
            x.row(0, part, 0);
        }
        x.see(-1, 0);
        x.see(1, 2);
        x.book(-1);
        x.book(3);
    }

    private void undoToAll() {
        e.edge(29, "THE IMAGE: TAKERS with all that is theirs, THE TIN, DAY, SEEN, the BOOK, which RULE holds.");
        e.unchanged("undo() of the most", EdgesActsTest::most, x -> {
            otherwise(x);
            return x.undo();
        }, 6);
        e.unchanged("undo() twice", EdgesActsTest::most, x -> {
            otherwise(x);
            x.undo();
            otherwise(x);
            return x.undo();
        }, 6);
        LittleLeft x = most();
        e.in("who()", x.who(), 1);
        e.in("looked()", x.looked(), -5);
        e.in("DAY", x.told(1), 1);
        e.in("GRAINS", x.told(0), 990);
        otherwise(x);
        e.out("DAY", x.told(1), 2);
        e.out("GRAINS", x.told(0), 1);
        e.out("SEEN", x.count(2), 1);
        e.out("rows", x.count(3), 1);
        e.out("who()", x.who(), 0);
        e.out("looked()", x.looked(), 0);
        e.in("undo()", x.undo(), 6);
        e.in("who()", x.who(), 1);
        e.in("looked()", x.looked(), -5);
        e.in("DAY", x.told(1), 1);
        e.in("GRAINS", x.told(0), 990);
        e.in("SEEN", x.count(2), 6);
        e.in("rows", x.count(3), 12);
        e.in("a seventh SEEN", x.see(0, 0), -4);
        e.in("a thirteenth row", x.book(0), -4);
        for (int part = 0; part < 4; part++) {
            e.in("ROW " + part, x.row(0, part, 0), 9 - part);
        }
    }

    private void undoToNobody() {
        e.edge(29, "All is as THE IMAGE: how many TAKERS.");
        LittleLeft x = new LittleLeft();
        x.image();
        for (int p = 0; p < 6; p++) {
            x.taker(6, 9, 60);
            x.row(p, 0, 9);
            x.fill(0);
            x.takes(p);
        }
        x.day();
        e.out("six are there", x.count(0), 6);
        e.in("undo() to nobody", x.undo(), 0);
        e.in("count(0)", x.count(0), 0);
        e.in("takes(0)", x.takes(0), -1);
        e.in("told(0)", x.told(0), 100);
        e.in("told(1)", x.told(1), 0);
        e.in("told(4)", x.told(4), 0);
        e.in("the next one's number", x.taker(6, 0, 1), 0);
        for (int what = 3; what <= 5; what++) {
            e.in("its of(0, " + what + ")", x.of(0, what), 0);
        }
        e.in("its ROW", x.row(0, 0, 1), 0);
    }

    private void notOfTheImage() {
        e.edge(29, "which RULE holds");
        LittleLeft x = new LittleLeft();
        x.image();
        for (int n = 0; n < 6; n++) {
            e.in("full " + n, Check.rule(x, "full " + n), n);
            e.in("it holds", x.told(3), 10 * n);
            if (n == 4) {
                e.in("image()", x.image(), 0);
            }
        }
        Check.feed(x, "full 9");
        e.in("undo()", x.undo(), 0);
        e.in("the fifth holds", x.told(3), 40);
        e.out("RULES stay six", x.count(1), 6);
        e.out("THE TEXT stays", x.count(4), 6);
        e.out("a seventh", x.rule(), -4);
        LittleLeft none = new LittleLeft();
        none.image();
        Check.rule(none, "least 9;full 9");
        none.undo();
        e.in("none holds: least", none.told(2), 5);
        e.in("none holds: FULL", none.told(3), 200);
        e.out("its RULE stays", none.count(1), 1);
        e.out("the next one's number", Check.rule(none, "full 1"), 1);
    }

    private void whichActs() {
        e.edge(30, "An ACT (0 takes, 1 leaves, 2 tells) of a TAKER with x. 0, and no TRACE then: no such TAKER, act.");
        LittleLeft x = Check.kitchen("", 0, Check.a(0, 1, 1), Check.a(0, 0, 1), Check.a(0, 0, 1), Check.a(0, 0, 1),
            Check.a(0, 0, 1), Check.a(0, 2, 1));
        e.in("act(0, 0, 7)", x.act(0, 0, 7), 7);
        e.in("act(0, 2, 7)", x.act(0, 2, 7), 12);
        e.in("act(5, 0, 7)", x.act(5, 0, 7), 12);
        e.in("act(5, 2, 7)", x.act(5, 2, 7), 20);
        for (int act : new int[] {-1, 3, MIN, MAX}) {
            noAct(0, act);
        }
        for (int taker : new int[] {-1, 5, 6, MIN, MAX}) {
            noAct(taker, 0);
        }
        LittleLeft nobody = new LittleLeft();
        e.out("act(0, 0, 7) of nobody", nobody.act(0, 0, 7), 0);
        e.out("count(5) of nobody", nobody.count(5), 0);
        e.unchanged("act(-1, ..)", () -> Whole.with(y -> y.act(1, 3, 5)), y -> y.act(-1, 0, 5), 0);
    }

    private void noAct(int taker, int act) {
        String call = "act(" + taker + ", " + act + ", 7)";
        e.refused(call, Whole::noTrace, y -> y.act(taker, act, 7), 0);
        LittleLeft x = Whole.kitchen();
        e.in("a TRACE ahead", x.count(5), 6);
        e.out(call, x.act(taker, act, 7), 0);
        e.out("bodies behind " + call, x.count(5), 0);
        e.out("trace(0) behind " + call, x.trace(0), -1);
    }

    private void numbersOfTakers() {
        e.edge(30, "i its number");
        LittleLeft x = Check.kitchen("", 0, Check.a(0, 0, 1), Check.a(0, 9, 1), Check.a(0, 0, 1), Check.a(0, 0, 1),
            Check.a(0, 0, 1), Check.a(0, 9, 1));
        e.in("act(0, 0, 0)", x.act(0, 0, 0), 0);
        e.in("act(5, 0, 0)", x.act(5, 0, 0), 5);
        e.in("v 0: act(0, 1, 0)", x.act(0, 1, 0), 0);
        e.in("v 9: act(1, 1, 0)", x.act(1, 1, 0), -8);
        e.in("v 9: act(5, 1, 0)", x.act(5, 1, 0), -4);
        e.out("no sixth: act(6, 0, 0)", x.act(6, 0, 0), 0);
        e.out("no sixth: count(5)", x.count(5), 0);
    }

    /** One of a KIND and v behind so many others. */
    private static LittleLeft behind(int others, int kind, int v) {
        LittleLeft x = new LittleLeft();
        for (int p = 0; p < others; p++) {
            x.taker(0, 0, 1);
        }
        x.taker(kind, v, 1);
        return x;
    }

    private void wrapsOfTaker() {
        e.edge(30, "TAKER: 10 takes: x + i. 11 leaves: takes(x) - v. 12 tells: leaves(x) * 2.");
        LittleLeft fifth = behind(5, 0, 9);
        e.in("10: to the greatest", fifth.act(5, 0, MAX - 5), MAX);
        e.out("10: beyond", fifth.act(5, 0, MAX - 4), MIN);
        e.out("10: far beyond", fifth.act(5, 0, MAX), MIN + 4);
        LittleLeft x = behind(0, 0, 9);
        e.in("11: to the least", x.act(0, 1, MIN + 9), MIN);
        e.out("11: beyond", x.act(0, 1, MIN + 8), MAX);
        LittleLeft y = behind(0, 0, 0);
        e.in("12: to the greatest", y.act(0, 2, HALF - 1), MAX - 1);
        e.out("12: beyond", y.act(0, 2, HALF), MIN);
        e.in("12: to the least", y.act(0, 2, -HALF), MIN);
        e.out("12: beyond", y.act(0, 2, -HALF - 1), MAX - 1);
        e.out("12: of the least", y.act(0, 2, MIN), 0);

        e.edge(30, "HALVER: 20 leaves: super.leaves(x) ^ 6.");
        LittleLeft z = behind(0, 1, 1);
        e.in("20: of the greatest", z.act(0, 1, MAX), (MAX - 1) ^ 6);
        e.in("20: of the least but one", z.act(0, 1, MIN + 1), MIN + 6);
        e.out("20: of the least", z.act(0, 1, MIN), MAX - 6);
    }

    private void wrapsOfPoliteAndProud() {
        e.edge(30, "POLITE: 30 takes: super.takes(x * 3).");
        LittleLeft x = behind(0, 2, 0);
        e.in("30: to the greatest", x.act(0, 0, 715827882), 2147483646);
        e.out("30: beyond", x.act(0, 0, 715827883), MIN + 1);
        e.in("30: to the least", x.act(0, 0, -715827882), -2147483646);
        e.out("30: beyond", x.act(0, 0, -715827883), MAX);
        e.out("30: of the least", x.act(0, 0, MIN), MIN);

        e.edge(30, "PROUD: 40 tells: super.tells(x) + leaves(1).");
        LittleLeft y = behind(5, 3, 0);
        e.in("40: to the greatest but one", y.act(5, 2, HALF - 9), 2147483640 + 6);
        e.out("40: beyond", y.act(5, 2, HALF - 8), MIN);
        e.out("40: far beyond", y.act(5, 2, HALF - 6), MIN + 4);
    }

    private void wrapsOfGreedyAndNew() {
        e.edge(30, "GREEDY: 50 takes: -super.takes(x). 51 leaves: super.leaves(x + 1).");
        LittleLeft x = behind(0, 4, 0);
        e.in("50: of the least but one", x.act(0, 0, MIN + 1), MAX);
        e.out("50: of the least", x.act(0, 0, MIN), MIN);
        e.in("50: of the greatest", x.act(0, 0, MAX), MIN + 1);
        e.in("51: of the greatest but one", x.act(0, 1, MAX - 1), (MIN + 1) ^ 6);
        e.out("51: of the greatest", x.act(0, 1, MAX), MIN + 6);

        e.edge(30, "NEW: 60 tells: super.tells(x - i).");
        LittleLeft y = behind(5, 5, 0);
        // The least times 3 is the least, and 5; twice that is 10.
        e.in("60: to the least", y.act(5, 2, MIN + 5), 10);
        // The greatest times 3 is 2 less than it, and 5; twice that is 4 beyond the least twice.
        e.out("60: beyond", y.act(5, 2, MIN + 4), 4);
        e.out("60: far beyond", y.act(5, 2, MIN), -20);
    }

    private void wrapsOfTold() {
        e.edge(30, "TOLD: 70 leaves: super.leaves(x) + super.takes(2). 71 takes: super.takes(x) ^ v.");
        LittleLeft x = behind(0, 6, 0);
        e.in("70: to the greatest", x.act(0, 1, MAX - 2), MAX);
        e.out("70: beyond", x.act(0, 1, MAX - 1), MIN);
        LittleLeft y = behind(0, 6, 9);
        e.in("71: v 9 of the greatest", y.act(0, 0, MAX), MAX - 9);
        e.in("71: v 9 of the least", y.act(0, 0, MIN), MIN + 9);
        e.in("71: v 0 of the greatest", x.act(0, 0, MAX), MAX);
    }

    private void trace() {
        e.edge(31, "THE TRACE's i-th body. NONE.");
        LittleLeft x = new LittleLeft();
        e.out("trace(0) ahead of any act", x.trace(0), -1);
        x.taker(0, 0, 1);
        x.taker(6, 0, 1);
        x.act(0, 0, 1);
        e.in("trace(0) of one body", x.trace(0), 10);
        e.out("trace(1) of one body", x.trace(1), -1);
        x.act(1, 2, 1);
        bodies(x, 40, 12, 70, 11, 71, 10, 10, 70, 11, 71, 10, 10);
        e.out("trace(12) of twelve", x.trace(12), -1);
        e.out("trace(19) of twelve", x.trace(19), -1);
        x.act(0, 1, 1);
        e.in("trace(1) of two", x.trace(1), 10);
        e.out("trace(2) of two behind twelve", x.trace(2), -1);
        for (int i : new int[] {-1, 6, 20, 21, MIN, MAX}) {
            e.refused("trace(" + i + ")", y -> y.trace(i), -1);
        }
        int[][] tells = {{12, 11, 10}, {12, 20, 11, 10}, {12, 11, 30, 10}, {40, 12, 11, 10, 11, 10}, {12, 51, 20, 11, 50, 10},
            {60, 12, 11, 30, 10}};
        for (int kind = 0; kind < tells.length; kind++) {
            LittleLeft y = behind(0, kind, 0);
            y.act(0, 2, 1);
            bodies(y, tells[kind]);
        }
    }

    /** THE TRACE holds these bodies alone. */
    private void bodies(LittleLeft x, int... bodies) {
        for (int i = 0; i < bodies.length; i++) {
            e.in("trace(" + i + ") of " + bodies.length, x.trace(i), bodies[i]);
        }
        e.out("trace(" + bodies.length + ")", x.trace(bodies.length), -1);
    }

    private void taken() {
        e.edge(32, "A TAKER taken for one of KIND k (0 .. 6), or one under that: its KIND. BAD: k; NOTHING: no such TAKER; CAST.");
        int[][] above = {{0}, {1, 0}, {2, 0}, {3, 0}, {4, 1, 0}, {5, 2, 0}, {6, 3, 0}};
        for (int kind = 0; kind <= 6; kind++) {
            LittleLeft x = behind(5, kind, 0);
            for (int k = 0; k <= 6; k++) {
                boolean is = false;
                for (int one : above[kind]) {
                    is |= one == k;
                }
                String call = "KIND " + kind + " taken for " + k;
                if (is) {
                    e.in(call, x.taken(5, k), kind);
                } else {
                    e.out(call, x.taken(5, k), -12);
                }
            }
        }
        e.refused("taken(0, 5): TOLD is no NEW one", y -> y.taken(0, 5), -12);
        for (int k : new int[] {-1, 7, MIN, MAX}) {
            e.refused("taken(0, " + k + ")", y -> y.taken(0, k), -2);
            e.refused("taken(-1, " + k + ")", y -> y.taken(-1, k), -2);
        }
        for (int taker : new int[] {-1, 6, MIN, MAX}) {
            e.refused("taken(" + taker + ", 0)", EdgesActsTest::six, y -> y.taken(taker, 0), -11);
        }
        e.refused("taken(5, 6) of five", y -> y.taken(5, 6), -11);
        e.out("taken(0, 0) of nobody", new LittleLeft().taken(0, 0), -11);
    }

    private void count() {
        e.edge(33, "How many: 0 TAKERS, 1 RULES, 2 of SEEN, 3 rows of the BOOK, 4 bytes of THE TEXT, 5 bodies that ran in the latest"
            + " act() (all, kept or not). BAD.");
        LittleLeft x = Whole.kitchen();
        int[] want = {5, 1, 2, 2, 6, 6};
        for (int what = 0; what < want.length; what++) {
            e.in("count(" + what + ")", x.count(what), want[what]);
            e.in("count(" + what + ") of a new one", new LittleLeft().count(what), 0);
        }
        for (int what : new int[] {-1, 6, MIN, MAX}) {
            e.refused("count(" + what + ")", y -> y.count(what), -2);
        }
    }

    private void countAtMost() {
        e.edge(33, "How many: 0 TAKERS, 1 RULES, 2 of SEEN, 3 rows of the BOOK, 4 bytes of THE TEXT");
        LittleLeft x = new LittleLeft();
        for (int n = 0; n < 6; n++) {
            x.taker(6, 0, 1);
            Check.rule(x, "full 1");
            x.see(1, 1);
            x.book(1);
            x.book(2);
        }
        Check.feed(x, "x".repeat(100));
        x.act(5, 2, 1);
        int[] want = {6, 6, 6, 12, 100, 12};
        for (int what = 0; what < want.length; what++) {
            e.in("count(" + what + ") at most", x.count(what), want[what]);
        }
        e.out("a TAKER more", x.taker(6, 0, 1), -4);
        e.out("a RULE more", x.rule(), -4);
        e.out("one more SEEN", x.see(1, 1), -4);
        e.out("a row more", x.book(1), -4);
        e.out("a byte more", x.feed(1), -4);
        for (int what = 0; what < want.length; what++) {
            e.in("count(" + what + ") behind that", x.count(what), want[what]);
        }
    }
}

/** Promises 28 to 33: the image, undo, act, trace, taken, count. */
public final class ActsTest {
    private static final Check CHECK = new Check("ActsTest");

    public static void main(String[] args) {
        image();
        whatIsNoPartOfTheImage();
        ruleOfTheImage();
        acts();
        actsThatWrap();
        noActs();
        taken();
        count();
        CHECK.end();
    }

    private static void due(String call, long got, long want) {
        CHECK.due(call, got, want);
    }

    private static void image() {
        LittleLeft x = Check.kitchen("pay 3 p<9", 0, Check.a(6, 2, 20), Check.a(0, 3, 30));
        due("undo() without", x.undo(), -3);
        x.row(0, 0, 3);
        x.day();
        x.see(7, 8);
        x.book(9);
        long before = sign(x);
        due("image()", x.image(), 2);
        for (int again = 0; again < 2; again++) {
            x.takes(1);
            x.day();
            x.day();
            x.fill(17);
            x.portion(0, 59);
            x.row(0, 0, 9);
            x.row(0, 1, 9);
            x.taker(5, 5, 5);
            x.see(1, 1);
            x.book(1);
            due("another sign", sign(x) == before ? 1 : 0, 0);
            due("undo()", x.undo(), 2);
            due("all is as it was", sign(x), before);
        }
        due("seen again", x.see(7, 8), 2);
        x.see(-1, 0);
        x.book(-1);
        due("undo() of clearing", x.undo(), 2);
        due("all is as it was", sign(x), before);
        due("taker() behind undo", x.taker(6, 1, 1), 2);
        due("its ROW is new", x.row(2, 1, 0), 0);
        due("its CUPS are new", x.of(2, 3) + x.of(2, 4) + x.of(2, 5), 0);
        due("image() anew", x.image(), 3);
        x.taker(0, 0, 1);
        due("undo() to the newer one", x.undo(), 3);
        told();
        LittleLeft empty = new LittleLeft();
        due("image() of nobody", empty.image(), 0);
        empty.taker(0, 0, 1);
        due("undo() to nobody", empty.undo(), 0);
        due("nobody is there", empty.takes(0), -1);
    }

    private static void told() {
        LittleLeft x = Check.kitchen("", 100, Check.a(0, 0, 30));
        x.see(100, 70);
        x.book(70);
        x.book(40);
        x.image();
        for (int again = 0; again < 2; again++) {
            x.see(-1, 0);
            x.see(100, 71);
            x.book(-1);
            x.book(70);
            x.book(41);
            due("otherwise SEEN", x.who(), 0);
            due("otherwise in the BOOK", x.looked(), 1);
            x.undo();
            due("SEEN as it was", x.who(), 1);
            due("the BOOK as it was", x.looked(), -5);
        }
        x.see(-1, 0);
        x.see(101, 70);
        x.undo();
        due("found as it was", x.who(), 1);
    }

    /** One number of all that THE IMAGE is of. */
    private static long sign(LittleLeft x) {
        long sign = 0;
        for (int p = 0; p < x.count(0); p++) {
            for (int what = 0; what < 8; what++) {
                sign = 31 * sign + x.of(p, what);
            }
        }
        for (int n = 0; n < 9; n++) {
            sign = 31 * sign + x.on(n, 0);
            sign = 31 * sign + x.on(n, 2);
        }
        for (int what = 0; what < 5; what++) {
            sign = 31 * sign + x.told(what);
        }
        sign = 31 * sign + x.count(2);
        sign = 31 * sign + x.count(3);
        return 31 * (31 * sign + x.who()) + x.looked();
    }

    private static void whatIsNoPartOfTheImage() {
        LittleLeft x = Check.kitchen("", 100, Check.a(3, 2, 20));
        x.image();
        Check.rule(x, "full 9");
        Check.feed(x, "want");
        x.act(0, 2, 5);
        x.tape(0, 2, 3);
        x.item(0, 1, 77);
        x.undo();
        due("RULES stay", x.count(1), 1);
        due("THE TEXT stays", x.count(4), 4);
        due("THE TRACE stays", x.count(5), 6);
        due("its bodies stay", x.trace(0), 40);
        due("TAPES stay", x.read(0, 1), 77);
        due("none of the RULES holds", x.told(3), 200);
    }

    private static void ruleOfTheImage() {
        LittleLeft x = Check.kitchen("want 5 p=0;least 7;full 8", 100, Check.a(3, 2, 20));
        x.image();
        due("another rule", Check.rule(x, "want 6 p=0;pay 9 p=0"), 1);
        due("WANTS", x.of(0, 6), 26);
        x.undo();
        due("WANTS again", x.of(0, 6), 25);
        due("PAY again", x.of(0, 7), 0);
        due("least again", x.told(2), 7);
        due("FULL again", x.told(3), 80);
        due("the next rule's number", Check.rule(x, "want 1 p=0"), 2);
        due("WANTS by it", x.of(0, 6), 21);
        x.undo();
        due("WANTS once more", x.of(0, 6), 25);
    }

    private static void act(LittleLeft x, int taker, int act, int n, int want, int... bodies) {
        String call = "act(" + taker + ", " + act + ", " + n + ")";
        due(call, x.act(taker, act, n), want);
        due("count(5) behind " + call, x.count(5), bodies.length);
        for (int i = 0; i < bodies.length; i++) {
            due("trace(" + i + ") behind " + call, x.trace(i), bodies[i]);
        }
        due("trace beyond " + call, x.trace(bodies.length), -1);
        due("trace(-1)", x.trace(-1), -1);
    }

    private static void acts() {
        LittleLeft x = Check.kitchen("", 100, Check.a(0, 1, 1), Check.a(1, 2, 1), Check.a(2, 3, 1),
            Check.a(3, 4, 1), Check.a(4, 5, 1), Check.a(5, 6, 1));
        act(x, 0, 0, 4, 4, 10);
        act(x, 0, 1, 4, 3, 11, 10);
        act(x, 0, 2, 4, 6, 12, 11, 10);
        act(x, 1, 0, 4, 5, 10);
        act(x, 1, 1, 4, 5, 20, 11, 10);
        act(x, 1, 2, 4, 10, 12, 20, 11, 10);
        act(x, 2, 0, 4, 14, 30, 10);
        act(x, 2, 1, 4, 11, 11, 30, 10);
        act(x, 2, 2, 4, 22, 12, 11, 30, 10);
        act(x, 3, 0, 4, 7, 10);
        act(x, 3, 1, 4, 3, 11, 10);
        act(x, 3, 2, 4, 6, 40, 12, 11, 10, 11, 10);
        act(x, 4, 0, 4, -8, 50, 10);
        act(x, 4, 1, 4, -12, 51, 20, 11, 50, 10);
        act(x, 4, 2, 4, -24, 12, 51, 20, 11, 50, 10);
        act(x, 5, 0, 4, 17, 30, 10);
        act(x, 5, 1, 4, 11, 11, 30, 10);
        act(x, 5, 2, 4, -8, 60, 12, 11, 30, 10);
        LittleLeft y = Check.kitchen("", 100, Check.a(0, 0, 1), Check.a(0, 0, 1), Check.a(6, 3, 1));
        act(y, 2, 0, 4, 5, 71, 10);
        act(y, 2, 1, 4, 6, 70, 11, 71, 10, 10);
        act(y, 2, 2, 4, 13, 40, 12, 70, 11, 71, 10, 10, 70, 11, 71, 10, 10);
    }

    private static void actsThatWrap() {
        LittleLeft x = Check.kitchen("", 100, Check.a(0, 0, 1), Check.a(1, 0, 1), Check.a(2, 0, 1));
        due("x + i", x.act(1, 0, Integer.MAX_VALUE), Integer.MIN_VALUE);
        due("x * 3 + i", x.act(2, 0, Integer.MAX_VALUE), Integer.MAX_VALUE);
        due("leaves * 2", x.act(0, 2, Integer.MIN_VALUE), 0);
    }

    private static void noActs() {
        LittleLeft x = Check.kitchen("", 100, Check.a(0, 1, 1));
        int[][] calls = {{1, 0}, {-1, 0}, {0, 3}, {0, -1}};
        for (int[] call : calls) {
            x.act(0, 2, 5);
            due("count(5)", x.count(5), 3);
            due("act(" + call[0] + ", " + call[1] + ", 5)", x.act(call[0], call[1], 5), 0);
            due("no TRACE then", x.count(5), 0);
            due("trace(0)", x.trace(0), -1);
        }
    }

    private static void taken() {
        int[][] above = {{0}, {1, 0}, {2, 0}, {3, 0}, {4, 1, 0}, {5, 2, 0}, {6, 3, 0}};
        for (int kind = 0; kind < 7; kind++) {
            LittleLeft x = Check.kitchen("", 100, Check.a(kind, 0, 1));
            for (int k = 0; k < 7; k++) {
                int want = -12;
                for (int one : above[kind]) {
                    if (one == k) {
                        want = kind;
                    }
                }
                due("kind " + kind + " taken for " + k, x.taken(0, k), want);
            }
        }
        LittleLeft x = Check.kitchen("", 100, Check.a(0, 0, 1));
        due("taken(0, 7)", x.taken(0, 7), -2);
        due("taken(0, -1)", x.taken(0, -1), -2);
        due("taken(1, 7): k first", x.taken(1, 7), -2);
        due("taken(1, 0)", x.taken(1, 0), -11);
        due("taken(-1, 0)", x.taken(-1, 0), -11);
    }

    private static void count() {
        LittleLeft x = Check.kitchen("full 3", 100, Check.a(0, 0, 1), Check.a(0, 0, 1));
        x.see(1, 1);
        x.see(1, 1);
        x.see(1, 1);
        x.book(1);
        x.book(1);
        x.book(1);
        x.book(1);
        Check.feed(x, "12345");
        x.act(0, 2, 0);
        int[] want = {2, 1, 3, 4, 5, 3};
        for (int what = 0; what < want.length; what++) {
            due("count(" + what + ")", x.count(what), want[what]);
        }
        due("count(6)", x.count(6), -2);
        due("count(-1)", x.count(-1), -2);
    }
}

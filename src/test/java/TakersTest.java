/** Promises 1 to 7 and 9: a new object, takers, of, portion, fill, row, feed, told. */
public final class TakersTest {
    private static final Check CHECK = new Check("TakersTest");

    private static void due(String call, long got, long want) {
        CHECK.due(call, got, want);
    }

    public static void main(String[] args) {
        constants();
        newObject();
        taker();
        of();
        portion();
        fill();
        row();
        feed();
        told();
        CHECK.end();
    }

    private static void constants() {
        due("NONE", LittleLeft.NONE, -1);
        due("BAD", LittleLeft.BAD, -2);
        due("STATE", LittleLeft.STATE, -3);
        due("FULL", LittleLeft.FULL, -4);
        due("NO", LittleLeft.NO, Long.MIN_VALUE);
    }

    private static void newObject() {
        LittleLeft x = new LittleLeft();
        for (int what = 0; what <= 5; what++) {
            due("count(" + what + ") of a new one", x.count(what), 0);
        }
        int[] told = {100, 0, 5, 200, 0};
        for (int what = 0; what < told.length; what++) {
            due("told(" + what + ") of a new one", x.told(what), told[what]);
        }
        due("undo() of a new one", x.undo(), -3);
        due("trace(0) of a new one", x.trace(0), -1);
        for (int tape = 0; tape < 6; tape++) {
            due("read of a new one", x.read(tape, 0), Long.MIN_VALUE);
            due("item of a new one", x.item(tape, 0, 1), -11);
        }
        LittleLeft other = new LittleLeft();
        x.taker(0, 0, 1);
        x.fill(3);
        due("another one's takers", other.count(0), 0);
        due("another one's grains", other.told(0), 100);
    }

    private static void taker() {
        LittleLeft x = new LittleLeft();
        due("taker(-1, 0, 1)", x.taker(-1, 0, 1), -1);
        due("taker(7, 0, 1)", x.taker(7, 0, 1), -1);
        due("taker(7, 10, 0): the kind first", x.taker(7, 10, 0), -1);
        due("taker(0, -1, 1)", x.taker(0, -1, 1), -2);
        due("taker(0, 10, 1)", x.taker(0, 10, 1), -2);
        due("taker(0, 0, 0)", x.taker(0, 0, 0), -2);
        due("taker(0, 0, 61)", x.taker(0, 0, 61), -2);
        due("taker(MIN, ..)", x.taker(Integer.MIN_VALUE, 0, 1), -1);
        due("count(0) behind wrong ones", x.count(0), 0);
        due("taker(0, 0, 1)", x.taker(0, 0, 1), 0);
        due("taker(6, 9, 60)", x.taker(6, 9, 60), 1);
        for (int i = 2; i < 6; i++) {
            due("taker " + i, x.taker(i, i, i), i);
        }
        due("a seventh", x.taker(0, 0, 1), -4);
        due("a seventh, no kind", x.taker(7, 0, 1), -1);
        due("a seventh, bad", x.taker(0, 0, 61), -2);
        due("count(0)", x.count(0), 6);
        due("of(1, 2)", x.of(1, 2), 60);
    }

    private static void of() {
        LittleLeft x = Check.kitchen("want 7 v=4;want 20 p=1;pay 3 k=5;pay 8 p<2;pay 4 g>10", 100,
            Check.a(2, 4, 11), Check.a(5, 3, 12));
        int[][] want = {{2, 4, 11, 0, 0, 0, 18, 8}, {5, 3, 12, 0, 0, 0, 32, 11}};
        for (int p = 0; p < 2; p++) {
            for (int what = 0; what < 8; what++) {
                due("of(" + p + ", " + what + ")", x.of(p, what), want[p][what]);
            }
            due("of(.., -1)", x.of(p, -1), -1);
            due("of(.., 8)", x.of(p, 8), -1);
        }
        due("of(2, 0)", x.of(2, 0), -1);
        due("of(-1, 0)", x.of(-1, 0), -1);
        x.fill(110);
        due("PAY by 11 tens", x.of(0, 7), 12);
        due("takes(1)", x.takes(1), 32);
        due("CUPS", x.of(1, 3), 1);
        due("FETCHES", x.of(1, 4), 0);
        x.fill(4);
        due("takes(1) of 4", x.takes(1), 4);
        due("CUPS", x.of(1, 3), 2);
        due("FETCHES", x.of(1, 4), 1);
        due("COINS", x.of(1, 5), 11);
        due("CUPS of the other", x.of(0, 3), 0);
    }

    private static void portion() {
        LittleLeft x = Check.kitchen("", 100, Check.a(0, 0, 20));
        due("portion(0, 60)", x.portion(0, 60), 20);
        due("portion(0, 1)", x.portion(0, 1), 60);
        due("portion(0, 0)", x.portion(0, 0), -2);
        due("portion(0, 61)", x.portion(0, 61), -2);
        due("portion(1, 5)", x.portion(1, 5), -1);
        due("portion(-1, 61): the taker first", x.portion(-1, 61), -1);
        due("of(0, 2)", x.of(0, 2), 1);
        due("of(0, 6)", x.of(0, 6), 1);
    }

    private static void fill() {
        LittleLeft x = new LittleLeft();
        due("fill(990)", x.fill(990), 100);
        due("fill(0)", x.fill(0), 990);
        due("fill(991)", x.fill(991), -2);
        due("fill(-1)", x.fill(-1), -2);
        due("told(0)", x.told(0), 0);
        due("told(4): filling is no fetching", x.told(4), 0);
    }

    private static void row() {
        LittleLeft x = Check.kitchen("", 100, Check.a(6, 0, 10), Check.a(3, 0, 10));
        due("row(0, 0, 9)", x.row(0, 0, 9), 0);
        due("row(0, 3, 4)", x.row(0, 3, 4), 0);
        due("row(0, 3, 5)", x.row(0, 3, 5), 4);
        due("row(0, 0, 10)", x.row(0, 0, 10), -2);
        due("row(0, 0, -1)", x.row(0, 0, -1), -2);
        due("row(0, 4, 1)", x.row(0, 4, 1), -1);
        due("row(0, -1, 1)", x.row(0, -1, 1), -1);
        due("row(2, 0, 1)", x.row(2, 0, 1), -1);
        due("row(0, 4, 10): the part first", x.row(0, 4, 10), -1);
        due("row(1, 0, 1)", x.row(1, 0, 1), -3);
        due("row(1, 0, 10): the number first", x.row(1, 0, 10), -2);
        due("row(1, 4, 1)", x.row(1, 4, 1), -1);
        due("row(0, 0, 2)", x.row(0, 0, 2), 9);
        due("row(0, 1, 0)", x.row(0, 1, 0), 0);
        for (int kind = 0; kind < 6; kind++) {
            LittleLeft y = Check.kitchen("", 100, Check.a(kind, 0, 10));
            due("row of kind " + kind, y.row(0, 0, 1), -3);
        }
    }

    private static void feed() {
        LittleLeft x = new LittleLeft();
        due("feed(-1)", x.feed(-1), -2);
        due("feed(128)", x.feed(128), -2);
        due("feed(0)", x.feed(0), 1);
        for (int n = 2; n <= 100; n++) {
            due("feed(127)", x.feed(127), n);
        }
        due("feed(127) behind 100", x.feed(127), -4);
        due("feed(128) behind 100", x.feed(128), -2);
        due("count(4)", x.count(4), 100);
    }

    private static void told() {
        LittleLeft x = Check.kitchen("least 3;full 9;least 7;full 12", 50,
            Check.a(5, 0, 60), Check.a(5, 0, 60), Check.a(5, 0, 60));
        due("told(2): the last least", x.told(2), 7);
        due("told(3): the last full", x.told(3), 120);
        due("day()", x.day(), 2);
        due("told(0)", x.told(0), 120);
        due("told(1)", x.told(1), 1);
        due("told(4)", x.told(4), 2);
        due("told(5)", x.told(5), -1);
        due("told(-1)", x.told(-1), -1);
        due("a rule without least and full", Check.rule(x, "want 1 p=0"), 1);
        due("told(2)", x.told(2), 5);
        due("told(3)", x.told(3), 200);
        due("least 0;full 0", Check.rule(x, "least 0;full 0"), 2);
        due("told(2)", x.told(2), 0);
        due("told(3)", x.told(3), 0);
        due("least 99;full 99", Check.rule(x, "least 99;full 99"), 3);
        due("told(2)", x.told(2), 99);
        due("told(3)", x.told(3), 990);
    }
}

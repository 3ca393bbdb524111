/** Promises 23 to 26: odds, mean, book, looked. */
public final class OddsTest {
    private static final Check CHECK = new Check("OddsTest");

    public static void main(String[] args) {
        odds();
        mean();
        book();
        looked();
        CHECK.end();
    }

    private static void due(String call, long got, long want) {
        CHECK.due(call, got, want);
    }

    private static void odds(LittleLeft x, int taker, int n, int above, int below) {
        due("odds(" + taker + ", " + n + ", 0)", x.odds(taker, n, 0), above);
        due("odds(" + taker + ", " + n + ", 1)", x.odds(taker, n, 1), below);
    }

    private static void odds() {
        LittleLeft x = Check.kitchen("", 100, Check.a(5, 0, 60), Check.a(5, 0, 60));
        odds(x, 0, 0, 0, 1);
        // Who comes second finds 40.
        odds(x, 0, 1, 1, 2);
        odds(x, 1, 1, 1, 2);
        LittleLeft four = Check.kitchen("", 100,
            Check.a(5, 0, 60), Check.a(5, 0, 60), Check.a(5, 0, 60), Check.a(5, 0, 60));
        odds(four, 0, 1, 3, 4);
        odds(four, 1, 1, 1, 4);
        odds(four, 2, 1, 0, 1);
        LittleLeft lowest = Check.kitchen("", 100,
            Check.a(5, 0, 40), Check.a(5, 0, 40), Check.a(5, 0, 20), Check.a(5, 0, 20));
        odds(lowest, 1, 1, 1, 2);
        odds(lowest, 2, 1, 1, 2);
        odds(lowest, 3, 1, 0, 1);
        LittleLeft two = Check.kitchen("", 100, Check.a(0, 0, 30), Check.a(5, 0, 50));
        odds(two, 0, 2, 0, 1);
        odds(two, 1, 2, 1, 1);
        // A FETCH twice is a FETCH; one ahead of these DAYS is none.
        LittleLeft often = Check.kitchen("full 1", 0, Check.a(5, 0, 60));
        odds(often, 0, 30, 1, 1);
        often.takes(0);
        often.portion(0, 1);
        odds(often, 0, 2, 0, 1);
        due("odds(2, 1, 0)", x.odds(2, 1, 0), Long.MIN_VALUE);
        due("odds(-1, 1, 0)", x.odds(-1, 1, 0), Long.MIN_VALUE);
        due("odds(0, 31, 0)", x.odds(0, 31, 0), Long.MIN_VALUE);
        due("odds(0, -1, 0)", x.odds(0, -1, 0), Long.MIN_VALUE);
        due("odds(0, 1, 2)", x.odds(0, 1, 2), Long.MIN_VALUE);
        due("odds(0, 1, -1)", x.odds(0, 1, -1), Long.MIN_VALUE);
        due("nothing has changed", x.told(0) + x.told(4) + x.of(0, 3), 100);
    }

    private static void mean(LittleLeft x, int n, int above, int below) {
        due("mean(" + n + ", 0)", x.mean(n, 0), above);
        due("mean(" + n + ", 1)", x.mean(n, 1), below);
    }

    private static void mean() {
        // 70, 40, 10, 5, 5, 5 ..
        LittleLeft x = Check.kitchen("", 100, Check.a(0, 0, 30));
        mean(x, 1, 70, 1);
        mean(x, 2, 55, 1);
        mean(x, 3, 40, 1);
        mean(x, 4, 125, 4);
        mean(x, 5, 26, 1);
        mean(x, 6, 45, 2);
        mean(x, 60, 27, 4);
        due("mean(0, 0)", x.mean(0, 0), Long.MIN_VALUE);
        due("mean(61, 0)", x.mean(61, 0), Long.MIN_VALUE);
        due("mean(1, 2)", x.mean(1, 2), Long.MIN_VALUE);
        due("mean(1, -1)", x.mean(1, -1), Long.MIN_VALUE);
        due("nothing has changed", x.told(0) + x.told(1), 100);
        LittleLeft empty = Check.kitchen("least 0", 0, Check.a(0, 0, 30));
        mean(empty, 60, 0, 1);
        LittleLeft nobody = new LittleLeft();
        mean(nobody, 60, 100, 1);
        nobody.fill(990);
        mean(nobody, 60, 990, 1);
    }

    private static void book() {
        LittleLeft x = new LittleLeft();
        due("book(999)", x.book(999), 1);
        due("book(0)", x.book(0), 2);
        due("book(1000)", x.book(1000), -2);
        due("book(-2)", x.book(-2), -2);
        due("count(3)", x.count(3), 2);
        for (int n = 3; n <= 12; n++) {
            due("book(100)", x.book(100), n);
        }
        due("a thirteenth", x.book(100), -4);
        due("a bad thirteenth", x.book(1000), -2);
        due("book(-1)", x.book(-1), 0);
        due("count(3)", x.count(3), 0);
        due("book(7)", x.book(7), 1);
    }

    private static void looked() {
        LittleLeft x = Check.kitchen("", 100, Check.a(5, 0, 30));
        due("an empty one", x.looked(), -5);
        int[] grains = {70, 40, 10, 200, 170, 140, 110, 80, 50, 20, 200};
        for (int n = 0; n < grains.length; n++) {
            x.book(grains[n]);
            due("as it goes, " + n, x.looked(), -5);
        }
        x.book(169);
        due("the last otherwise", x.looked(), 11);
        due("nothing has changed", x.told(0) + x.told(1), 100);
        x.day();
        due("from another DAY on", x.looked(), 0);
        x.book(-1);
        x.book(40);
        x.book(11);
        x.book(999);
        due("the second otherwise", x.looked(), 1);
        LittleLeft nobody = new LittleLeft();
        nobody.book(100);
        nobody.book(100);
        due("nobody", nobody.looked(), -5);
        nobody.book(99);
        due("nobody, otherwise", nobody.looked(), 2);
    }
}

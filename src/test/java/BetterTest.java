/** Promises 15 to 18: least, full, order, without. */
public final class BetterTest {
    private static final Check CHECK = new Check("BetterTest");

    public static void main(String[] args) {
        least();
        full();
        order();
        without();
        CHECK.end();
    }

    private static void due(String call, long got, long want) {
        CHECK.due(call, got, want);
    }

    private static void least() {
        LittleLeft x = Check.kitchen("", 100, Check.a(0, 0, 60), Check.a(6, 0, 10));
        for (int part = 0; part < 4; part++) {
            x.row(1, part, 1);
        }
        // From least 10 on the first one leaves enough for the second on DAY 1.
        due("least(1, 0)", x.least(1, 0), 0);
        due("least(2, 0)", x.least(2, 0), 10);
        due("least(2, 1)", x.least(2, 1), 0);
        due("on(2, 1) by the rule", x.on(2, 1), 1);
        due("told(2) stays", x.told(2), 5);
        due("told(0) stays", x.told(0), 100);
        due("least(0, 0)", x.least(0, 0), -2);
        due("least(11, 1)", x.least(11, 1), -2);
        due("least(11, 2): what first", x.least(11, 2), -1);
        due("least(1, -1)", x.least(1, -1), -1);
        due("least(10, 1)", x.least(10, 1) >= 0 ? 1 : 0, 1);
        // One that fetches on each DAY, whatever least is.
        LittleLeft each = Check.kitchen("full 9", 0, Check.a(3, 0, 60), Check.a(3, 0, 60));
        due("each DAY: least(3, 0)", each.least(3, 0), 0);
        due("each DAY: least(3, 1)", each.least(3, 1), 6);
        // The first one leaves just least, and below 20 the other fetches.
        LittleLeft last = Check.kitchen("", 39, Check.a(0, 0, 60), Check.a(6, 0, 1));
        last.row(1, 0, 2);
        due("last: least(1, 0)", last.least(1, 0), 20);
        due("last: least(1, 1)", last.least(1, 1), 0);
        byRules();
        LittleLeft nobody = new LittleLeft();
        due("nobody: least(10, 0)", nobody.least(10, 0), 0);
        due("nobody: least(10, 1)", nobody.least(10, 1), 0);
    }

    /** As rules of each least would have it; here 21 would be better than any, but is not asked. */
    private static void byRules() {
        int chosen = -1;
        int fewest = Integer.MAX_VALUE;
        for (int least = 0; least <= 21; least++) {
            LittleLeft y = Check.kitchen("full 12;want 51 g<10;least " + least, 111,
                Check.a(4, 0, 18), Check.a(3, 0, 5), Check.a(3, 0, 30));
            int fetches = y.on(7, 1);
            if (least == 21) {
                due("21 is better", fetches < fewest ? 1 : 0, 1);
                due("by rules: least(7, 0)", y.least(7, 0), chosen);
                due("by rules: least(7, 1)", y.least(7, 1), fewest);
            } else if (fetches < fewest) {
                chosen = least;
                fewest = fetches;
            }
        }
    }

    private static void full() {
        LittleLeft x = Check.kitchen("full 3", 100, Check.a(5, 0, 30));
        due("full(3, 0): no FETCHES", x.full(3, 0), 10);
        due("full(3, 1): no FETCHES", x.full(3, 1), 0);
        due("full(1, 0)", x.full(1, 0), 10);
        due("full(4, 0)", x.full(4, 0), 10);
        due("full(4, 1)", x.full(4, 1), 10);
        // By 10 to 30 it fetches on both DAYS, by 40 once.
        due("full(5, 0)", x.full(5, 0), 40);
        due("full(5, 1)", x.full(5, 1), 13);
        due("told(3) stays", x.told(3), 30);
        due("told(0) stays", x.told(0), 100);
        due("full(0, 0)", x.full(0, 0), -2);
        due("full(11, 0)", x.full(11, 0), -2);
        due("full(11, -1): what first", x.full(11, -1), -1);
        due("full(1, 2)", x.full(1, 2), -1);
        // It fetches on DAY 0 and, by 290 or less, at least once more: 140 twice (46), 300 once (39).
        LittleLeft last = Check.kitchen("", 0, Check.a(5, 0, 32));
        due("last: full(10, 0)", last.full(10, 0), 300);
        due("last: full(10, 1)", last.full(10, 1), 39);
        LittleLeft nobody = new LittleLeft();
        due("nobody: full(10, 0)", nobody.full(10, 0), 10);
        due("nobody: full(10, 1)", nobody.full(10, 1), 0);
    }

    private static void order() {
        LittleLeft x = Check.kitchen("", 100, Check.a(0, 0, 30), Check.a(4, 0, 60));
        due("order(-1)", x.order(-1), 80);
        due("order(0)", x.order(0), 1);
        due("order(1)", x.order(1), 0);
        due("order(2)", x.order(2), -5);
        due("order(4)", x.order(4), -5);
        due("order(5)", x.order(5), -1);
        due("order(-2)", x.order(-2), -1);
        due("nothing has changed", x.told(0) + x.of(0, 3), 100);
        LittleLeft alike = Check.kitchen("", 990, Check.a(0, 0, 10), Check.a(0, 0, 20),
            Check.a(0, 0, 30), Check.a(0, 0, 40), Check.a(5, 0, 50));
        due("alike: order(-1)", alike.order(-1), 150);
        for (int k = 0; k < 5; k++) {
            due("alike: order(" + k + ")", alike.order(k), k);
        }
        // The GREEDY one takes 30 if it comes first, and less behind any other.
        LittleLeft last = Check.kitchen("least 0", 60, Check.a(5, 0, 1), Check.a(5, 0, 2),
            Check.a(5, 0, 3), Check.a(5, 0, 4), Check.a(4, 0, 20));
        due("last: order(-1)", last.order(-1), 40);
        int[] want = {4, 0, 1, 2, 3};
        for (int k = 0; k < 5; k++) {
            due("last: order(" + k + ")", last.order(k), want[k]);
        }
        // Behind the GREEDY one there are 50, so that the one who is TOLD fetches and takes all of its 60.
        LittleLeft told = Check.kitchen("", 100, Check.a(6, 0, 60), Check.a(4, 0, 60));
        told.row(0, 0, 9);
        due("told: order(-1)", told.order(-1), 50 + 60);
        due("told: order(0)", told.order(0), 1);
        told.taker(0, 0, 1);
        told.taker(0, 0, 1);
        told.taker(0, 0, 1);
        due("five: order(4)", told.order(4) >= 0 ? 1 : 0, 1);
        told.taker(0, 0, 1);
        due("six: order(-1)", told.order(-1), -9);
        due("six: order(0)", told.order(0), -9);
        due("six: order(5): k first", told.order(5), -1);
        LittleLeft nobody = new LittleLeft();
        due("nobody: order(-1)", nobody.order(-1), 0);
        due("nobody: order(0)", nobody.order(0), -5);
        due("nobody: order(-2)", nobody.order(-2), -1);
    }

    private static void without() {
        LittleLeft x = Check.kitchen("", 100, Check.a(0, 0, 30), Check.a(5, 0, 50));
        due("without(0, 2)", x.without(0, 2), 0);
        due("without(1, 2)", x.without(1, 2), 1);
        due("without(1, 1)", x.without(1, 1), 0);
        due("without(1, 0)", x.without(1, 0), 0);
        due("without(2, 1)", x.without(2, 1), -10001);
        due("without(-1, 31): the taker first", x.without(-1, 31), -10001);
        due("without(0, 31)", x.without(0, 31), -10002);
        due("without(0, -1)", x.without(0, -1), -10002);
        due("without(0, 30)", x.without(0, 30) > -100 ? 1 : 0, 1);
        due("nothing has changed", x.told(0) + x.count(0), 102);
        // With: it fetches to 40 and leaves 5; the other takes these and fetches. Without: one FETCH.
        LittleLeft fewer = Check.kitchen("full 4;least 5", 60, Check.a(3, 0, 56), Check.a(5, 0, 60));
        due("fewer: on(1, 1)", fewer.on(1, 1), 2);
        due("fewer: without(0, 1)", fewer.without(0, 1), 1);
        // With: 90 make the POLITE one take 25 and leave 65. Without: it takes 50 of 100, and 50 are below 60.
        LittleLeft more = Check.kitchen("", 100, Check.a(0, 0, 10), Check.a(2, 0, 50), Check.a(6, 0, 5));
        more.row(2, 0, 6);
        due("more: without(0, 1)", more.without(0, 1), -1);
        // Without the first the second is still number 1 and WANTS 61.
        LittleLeft numbers = Check.kitchen("want 60 p=1", 60, Check.a(0, 0, 1), Check.a(5, 0, 1));
        due("numbers: on(1, 1)", numbers.on(1, 1), 1);
        due("numbers: without(0, 1)", numbers.without(0, 1), 0);
    }
}

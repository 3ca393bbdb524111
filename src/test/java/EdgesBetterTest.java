import java.io.IOException;
import java.util.function.IntFunction;
import java.util.function.Supplier;

/** Edges of promises 15 to 18: least, full, order, without. */
public final class EdgesBetterTest {
    private static final int MIN = Integer.MIN_VALUE;
    private static final int MAX = Integer.MAX_VALUE;
    private final Edges e = new Edges("EdgesBetterTest");

    private EdgesBetterTest() throws IOException {
    }

    public static void main(String[] args) throws IOException {
        EdgesBetterTest test = new EdgesBetterTest();
        test.leastDays();
        test.leastOf();
        test.fullDays();
        test.fullOf();
        test.order();
        test.orderOfFive();
        test.orderOfFewer();
        test.without();
        test.withoutSigns();
        test.e.end(15, 16, 17, 18);
    }

    private static LittleLeft six() {
        return Whole.with(x -> x.taker(0, 0, 60));
    }

    /** One who WANTS more than there is on DAYS 2 and 9, so that it FETCHES on these, whatever least is. */
    private static LittleLeft onTheTenth() {
        return Check.kitchen("want 99 d=2", 100, Check.a(3, 0, 1));
    }

    private void leastDays() {
        e.edge(15, "LEAST of n DAYS (1 .. 10)");
        LittleLeft x = onTheTenth();
        e.in("least(1, 1)", x.least(1, 1), 0);
        e.in("least(2, 1)", x.least(2, 1), 0);
        e.in("least(3, 1)", x.least(3, 1), 1);
        e.in("least(9, 1)", x.least(9, 1), 1);
        e.in("least(10, 1)", x.least(10, 1), 2);
        x.fill(0);
        e.in("least(1, 1) of 0", x.least(1, 1), 1);
        for (int n : new int[] {0, -1, 11, MIN, MAX}) {
            e.refused("least(" + n + ", 0)", y -> y.least(n, 0), -2);
            e.refused("least(" + n + ", 1)", y -> y.least(n, 1), -2);
        }

        e.edge(15, "LEAST: what 0 that, 1 how many. NONE; BAD: n.");
        LittleLeft nobody = new LittleLeft();
        e.in("least(10, 0) of nobody", nobody.least(10, 0), 0);
        e.in("least(10, 1) of nobody", nobody.least(10, 1), 0);
        e.out("least(11, 0) of nobody", nobody.least(11, 0), -2);
        for (int what : new int[] {-1, 2, MIN, MAX}) {
            e.refused("least(1, " + what + ")", y -> y.least(1, what), -1);
            e.refused("least(11, " + what + ")", y -> y.least(11, what), -1);
        }
    }

    private static LittleLeft byLeast(int least) {
        return Check.kitchen("full 22;want 30 g<11" + (least < 0 ? "" : ";least " + least), 125,
            Check.a(1, 0, 9), Check.a(3, 0, 41), Check.a(1, 0, 51));
    }

    private void leastOf() {
        e.edge(15, "of 0 .. 20 that by which, in place of least, there are fewest FETCHES in these (of several the least); how many");
        LittleLeft x = byLeast(-1);
        for (int least = 0; least < 20; least++) {
            e.out("by least " + least, byLeast(least).on(9, 1) > 7 ? 1 : 0, 1);
        }
        e.in("by least 20", byLeast(20).on(9, 1), 7);
        e.out("by least 21, which is not asked", byLeast(21).on(9, 1), 4);
        e.in("least(9, 0)", x.least(9, 0), 20);
        e.in("least(9, 1)", x.least(9, 1), 7);
        // By 0 nobody ever FETCHES, by more the one who takes all does.
        LittleLeft none = Check.kitchen("least 9", 20, Check.a(5, 0, 10), Check.a(5, 0, 10));
        e.in("least(1, 0) of no FETCHES", none.least(1, 0), 0);
        e.in("least(1, 1) of no FETCHES", none.least(1, 1), 0);
        e.out("on(1, 1) by the RULE", none.on(1, 1), 1);
        // The first one leaves just least, below which of 10 the other FETCHES: 10 to 20 are alike.
        LittleLeft told = Check.kitchen("", 90, Check.a(0, 0, 60), Check.a(0, 0, 60), Check.a(6, 0, 1));
        told.row(2, 0, 1);
        e.in("of several: least(1, 0)", told.least(1, 0), 10);
        e.in("of several: least(1, 1)", told.least(1, 1), 0);
        LittleLeft alike = Check.kitchen("full 0", 0, Check.a(3, 0, 60));
        e.in("0 to 20 alike but for 0: least(1, 0)", alike.least(1, 0), 0);
        e.in("0 to 20 alike but for 0: least(1, 1)", alike.least(1, 1), 1);
        e.unchanged("least(10, 0)", EdgesBetterTest::six, y -> y.least(10, 0) >= 0 ? 1 : 0, 1);
    }

    private void fullDays() {
        e.edge(16, "FULL of n DAYS likewise, of 10, 20 .. 300");
        LittleLeft x = onTheTenth();
        e.in("full(1, 1)", x.full(1, 1), 0);
        e.in("full(3, 1): once, 10", x.full(3, 1), 10);
        int nine = x.full(9, 1);
        int ten = x.full(10, 1);
        e.in("full(9, 1)", nine, cheapest(9, EdgesBetterTest::tenthByFull)[1]);
        e.in("full(10, 1)", ten, cheapest(10, EdgesBetterTest::tenthByFull)[1]);
        e.in("DAY 9 is among ten", ten > nine ? 1 : 0, 1);
        for (int n : new int[] {0, -1, 11, MIN, MAX}) {
            e.refused("full(" + n + ", 0)", y -> y.full(n, 0), -2);
            e.refused("full(" + n + ", 1)", y -> y.full(n, 1), -2);
        }

        e.edge(16, "FULL: what 0 that, 1 how much. NONE; BAD: n.");
        LittleLeft nobody = new LittleLeft();
        e.in("full(10, 0) of nobody", nobody.full(10, 0), 10);
        e.in("full(10, 1) of nobody", nobody.full(10, 1), 0);
        e.out("full(11, 0) of nobody", nobody.full(11, 0), -2);
        for (int what : new int[] {-1, 2, MIN, MAX}) {
            e.refused("full(1, " + what + ")", y -> y.full(1, what), -1);
            e.refused("full(11, " + what + ")", y -> y.full(11, what), -1);
        }
    }

    private static LittleLeft tenthByFull(int tens) {
        return Check.kitchen("want 99 d=2;full " + tens, 100, Check.a(3, 0, 1));
    }

    /** As RULES of each FULL have it: the least of those by which it is least how much, and how much. */
    private static int[] cheapest(int n, IntFunction<LittleLeft> byFull) {
        int[] best = {0, MAX};
        for (int tens = 1; tens <= 30; tens++) {
            int cost = byFull.apply(tens).on(n, 1) * (tens + 9);
            if (cost < best[1]) {
                best = new int[] {10 * tens, cost};
            }
        }
        return best;
    }

    /** One who takes all of 270 or less and all of 290; of 300 it FETCHES anew behind six TAKINGS, of 310 behind eleven. */
    private static LittleLeft upTo(int tens) {
        String all = "want 99 g<28|g=29;";
        return Check.kitchen(all + all + all + "want 16 g=30;want 21 g=31;full " + tens, 0, Check.a(5, 0, 1));
    }

    private void fullOf() {
        e.edge(16, "FETCHES times (FULL by 10, and 9, together) are least; how much that is");
        e.in("by FULL 10", upTo(1).on(10, 1), 10);
        e.in("by FULL 290", upTo(29).on(10, 1), 10);
        e.in("by FULL 300", upTo(30).on(10, 1), 2);
        e.out("by FULL 310, which is not asked: 40", upTo(31).on(10, 1), 1);
        for (int tens = 1; tens < 30; tens++) {
            e.out("by FULL " + 10 * tens, upTo(tens).on(10, 1) * (tens + 9) > 78 ? 1 : 0, 1);
        }
        LittleLeft x = upTo(20);
        e.in("full(10, 0)", x.full(10, 0), 300);
        e.in("full(10, 1)", x.full(10, 1), 78);
        // One who FETCHES on each DAY: by FULL 0 it would be 9 for each, by 10 it is 10.
        LittleLeft each = Check.kitchen("want 99 p<1;want 99 p<1;want 99 p<1", 0, Check.a(5, 0, 60));
        e.in("each DAY: full(1, 0)", each.full(1, 0), 10);
        e.in("each DAY: full(10, 0)", each.full(10, 0), 10);
        e.in("each DAY: full(10, 1)", each.full(10, 1), 100);
        e.out("told(3)", each.told(3), 200);
        // By 10 twice (20), by 110 or more once (20): of several the least.
        LittleLeft several = Check.kitchen("want 97 d=1", 0, Check.a(5, 0, 1));
        e.in("of several: full(2, 0)", several.full(2, 0), 10);
        e.in("of several: full(2, 1)", several.full(2, 1), 20);
        e.in("of several: by FULL 110", byFull("want 97 d=1", 11).on(2, 1) * 20, 20);
        e.unchanged("full(10, 0)", EdgesBetterTest::six, y -> y.full(10, 0) >= 10 ? 1 : 0, 1);
    }

    private static LittleLeft byFull(String rule, int tens) {
        return Check.kitchen(rule + ";full " + tens, 0, Check.a(5, 0, 1));
    }

    private void order() {
        e.edge(17, "ORDER (5 TAKERS at most, else -9)");
        LittleLeft five = Whole.kitchen();
        e.in("five: order(-1)", five.order(-1) >= 0 ? 1 : 0, 1);
        e.in("five: order(4)", five.order(4) >= 0 ? 1 : 0, 1);
        for (int k = -1; k <= 4; k++) {
            int itsK = k;
            e.refused("six: order(" + k + ")", EdgesBetterTest::six, y -> y.order(itsK), -9);
        }

        e.edge(17, "ORDER: k -1 how much, else the k-th (-5: there are fewer). NONE: k (-1 .. 4); -9.");
        LittleLeft x = Check.kitchen("", 990, Check.a(0, 0, 60));
        e.in("order(-1) of one", x.order(-1), 60);
        e.in("order(0) of one", x.order(0), 0);
        e.out("order(1) of one", x.order(1), -5);
        e.out("order(4) of one", x.order(4), -5);
        LittleLeft nobody = new LittleLeft();
        e.in("order(-1) of nobody", nobody.order(-1), 0);
        for (int k = 0; k <= 4; k++) {
            e.out("order(" + k + ") of nobody", nobody.order(k), -5);
        }
        for (int k : new int[] {-2, 5, MIN, MAX}) {
            e.refused("five: order(" + k + ")", y -> y.order(k), -1);
            e.refused("six: order(" + k + ")", EdgesBetterTest::six, y -> y.order(k), -1);
            e.out("nobody: order(" + k + ")", nobody.order(k), -1);
        }
    }

    private static LittleLeft lastOrder() {
        return Check.kitchen("", 204, Check.a(0, 0, 49), Check.a(4, 0, 7), Check.a(0, 0, 45), Check.a(4, 0, 48),
            Check.a(4, 0, 49));
    }

    private void orderOfFive() {
        e.edge(17, "of all orders in which all could have their TAKINGS on this DAY that by which what they TAKE is most,"
            + " together (of several the first as a row)");
        for (int row = 1234; row < 43210; row++) {
            int took = takenBy(lastOrder(), row);
            if (took >= 0) {
                e.out("less by " + row, took < 249 ? 1 : 0, 1);
            }
        }
        e.in("by the last row", takenBy(lastOrder(), 43210), 249);
        LittleLeft x = lastOrder();
        e.in("the last row: order(-1)", x.order(-1), 249);
        for (int k = 0; k < 5; k++) {
            e.in("the last row: order(" + k + ")", x.order(k), 4 - k);
        }
        LittleLeft alike = Check.kitchen("", 990, Check.a(0, 0, 60), Check.a(0, 0, 60), Check.a(0, 0, 60),
            Check.a(0, 0, 60), Check.a(0, 0, 60));
        e.in("all alike: order(-1)", alike.order(-1), 300);
        for (int k = 0; k < 5; k++) {
            e.in("all alike: order(" + k + ")", alike.order(k), k);
        }
        LittleLeft nothing = Check.kitchen("full 0", 0, Check.a(0, 0, 60), Check.a(5, 0, 60));
        e.in("nothing is there: order(-1)", nothing.order(-1), 0);
        e.in("nothing is there: order(0)", nothing.order(0), 0);
        e.in("nothing is there: order(1)", nothing.order(1), 1);
        e.unchanged("order(-1)", Whole::kitchen, y -> y.order(-1) > 0 ? 1 : 0, 1);
    }

    /** What five take together in the order of a number's digits; -1: these are no order. */
    private static int takenBy(LittleLeft x, int row) {
        int took = 0;
        int come = 0;
        for (int place = 10000; place > 0; place /= 10) {
            int taker = row / place % 10;
            if (taker > 4 || (come >> taker & 1) == 1) {
                return -1;
            }
            come |= 1 << taker;
            took += x.takes(taker);
        }
        return took;
    }

    private void orderOfFewer() {
        e.edge(17, "-5: there are fewer");
        for (int takers = 1; takers <= 5; takers++) {
            LittleLeft x = new LittleLeft();
            x.fill(990);
            for (int p = 0; p < takers; p++) {
                x.taker(0, 0, 9);
            }
            e.in(takers + ": order(-1)", x.order(-1), 9 * takers);
            e.in(takers + ": the last", x.order(takers - 1), takers - 1);
            e.out(takers + ": one more", x.order(takers), takers < 5 ? -5 : -1);
        }
    }

    private void without() {
        e.edge(18, "WITHOUT of one for n DAYS (0 .. 30)");
        LittleLeft x = Check.kitchen("", 34, Check.a(5, 0, 1));
        e.in("without(0, 0)", x.without(0, 0), 0);
        e.in("without(0, 29)", x.without(0, 29), 0);
        e.in("without(0, 30)", x.without(0, 30), 1);
        x.fill(35);
        e.in("without(0, 30) of 35", x.without(0, 30), 0);
        for (int n : new int[] {-1, 31, MIN, MAX}) {
            e.refused("without(0, " + n + ")", y -> y.without(0, n), -10002);
            e.refused("without(5, " + n + ")", EdgesBetterTest::six, y -> y.without(5, n), -10002);
        }

        e.edge(18, "-10001: NONE; -10002: BAD: n.");
        LittleLeft six = Check.kitchen("full 0;least 1", 0, Check.a(3, 0, 1), Check.a(3, 0, 1), Check.a(3, 0, 1),
            Check.a(3, 0, 1), Check.a(3, 0, 1), Check.a(0, 0, 1));
        e.in("without(0, 30)", six.without(0, 30), 60);
        e.in("without(5, 30)", six.without(5, 30), 30);
        for (int taker : new int[] {-1, 6, MIN, MAX}) {
            e.refused("without(" + taker + ", 1)", EdgesBetterTest::six, y -> y.without(taker, 1), -10001);
            e.refused("without(" + taker + ", 31)", EdgesBetterTest::six, y -> y.without(taker, 31), -10001);
        }
        e.refused("without(5, 1) of five", y -> y.without(5, 1), -10001);
        e.out("without(0, 1) of nobody", new LittleLeft().without(0, 1), -10001);
    }

    private void withoutSigns() {
        e.edge(18, "how many FETCHES fewer there are, if it were not there (may be below 0)");
        // With 10 fewer the POLITE one takes 25 of 90; of 100 it takes 50, and who is told so FETCHES below 60.
        LittleLeft x = Check.kitchen("", 100, Check.a(0, 0, 10), Check.a(2, 0, 50), Check.a(6, 0, 5));
        x.row(2, 0, 6);
        e.out("more without the first: without(0, 1)", x.without(0, 1), -1);
        e.in("alike without the second: without(1, 1)", x.without(1, 1), 0);
        x.fill(59);
        e.in("fewer without the third: without(2, 1)", x.without(2, 1), 1);
        Supplier<LittleLeft> six = EdgesBetterTest::six;
        e.unchanged("without(5, 30)", six, y -> y.without(5, 30) > -1000 ? 1 : 0, 1);
    }
}

import java.io.IOException;
import java.util.function.Supplier;

/** Edges of promises 10 to 14: takes, day, on, would, next. */
public final class EdgesDaysTest {
    private static final int MIN = Integer.MIN_VALUE;
    private static final int MAX = Integer.MAX_VALUE;
    private static final int TAKER = 0, HALVER = 1, POLITE = 2, PROUD = 3, GREEDY = 4, NEW = 5, TOLD = 6;
    private final Edges e = new Edges("EdgesDaysTest");

    private EdgesDaysTest() throws IOException {
    }

    public static void main(String[] args) throws IOException {
        EdgesDaysTest test = new EdgesDaysTest();
        test.takes();
        test.cups();
        test.fetchesBehind();
        test.toFetch();
        test.wantsAsItBegins();
        test.takerAndHalver();
        test.politeAndProud();
        test.greedyAndNew();
        test.told();
        test.day();
        test.lastDay();
        test.on();
        test.onWhat();
        test.would();
        test.next();
        test.nextDays();
        test.e.end(10, 11, 12, 13, 14);
    }

    private static LittleLeft six() {
        return Whole.with(x -> x.taker(0, 0, 60));
    }

    /** One by no rule. */
    private static LittleLeft one(int kind, int portion, int grains) {
        return Check.kitchen("", grains, Check.a(kind, 0, portion));
    }

    /** What one takes by no rule, then GRAINS, then its FETCHES: inside a boundary. */
    private void in(int kind, int portion, int grains, int takes, int behind, int fetches) {
        LittleLeft x = one(kind, portion, grains);
        String call = "KIND " + kind + " who WANTS " + portion + " of " + grains;
        e.in(call + " would take", x.would(0, 0), takes);
        e.in(call + " takes", x.takes(0), takes);
        e.in(call + " leaves", x.told(0), behind);
        e.in(call + " has FETCHES", x.of(0, 4), fetches);
    }

    /** The same outside it. */
    private void out(int kind, int portion, int grains, int takes, int behind, int fetches) {
        LittleLeft x = one(kind, portion, grains);
        String call = "KIND " + kind + " who WANTS " + portion + " of " + grains;
        e.out(call + " would take", x.would(0, 0), takes);
        e.out(call + " takes", x.takes(0), takes);
        e.out(call + " leaves", x.told(0), behind);
        e.out(call + " has FETCHES", x.of(0, 4), fetches);
    }

    private void takes() {
        e.edge(10, "A TAKING: what it TAKES. NONE.");
        LittleLeft x = six();
        x.fill(990);
        // On this DAY all of them WANT 5 more than their PORTIONS.
        e.in("takes(0)", x.takes(0), 25);
        e.in("takes(5)", x.takes(5), 65);
        e.in("told(0)", x.told(0), 900);
        for (int taker : new int[] {-1, 6, MIN, MAX}) {
            e.refused("takes(" + taker + ")", EdgesDaysTest::six, y -> y.takes(taker), -1);
        }
        e.refused("takes(5) of five", y -> y.takes(5), -1);
        LittleLeft nobody = new LittleLeft();
        e.out("takes(0) of nobody", nobody.takes(0), -1);
        e.out("told(0) of nobody", nobody.told(0), 100);
    }

    private void cups() {
        e.edge(10, "it TAKES, and CUPS are 1 more, if that is 1 or more");
        LittleLeft x = one(NEW, 1, 990);
        e.in("takes(0)", x.takes(0), 1);
        e.in("CUPS", x.of(0, 3), 1);
        x.portion(0, 60);
        e.in("takes(0)", x.takes(0), 60);
        e.in("CUPS", x.of(0, 3), 2);
        x.fill(0);
        e.out("takes(0)", x.takes(0), 0);
        e.out("CUPS", x.of(0, 3), 2);
    }

    private void fetchesBehind() {
        e.edge(10, "if GRAINS are fewer than least, it FETCHES");
        out(NEW, 1, 6, 1, 5, 0);
        in(NEW, 1, 5, 1, 200, 1);
        LittleLeft x = Check.kitchen("least 0;full 0", 1, Check.a(NEW, 0, 1));
        e.out("least 0: takes(0) of 1", x.takes(0), 1);
        e.out("least 0: FETCHES", x.of(0, 4), 0);
        e.out("least 0: takes(0) of 0", x.takes(0), 0);
        e.out("least 0: FETCHES", x.of(0, 4), 0);
        LittleLeft most = Check.kitchen("least 99", 100, Check.a(NEW, 0, 1));
        e.out("least 99: takes(0) of 100", most.takes(0), 1);
        e.out("least 99: FETCHES", most.of(0, 4), 0);
        e.in("least 99: takes(0) of 99", most.takes(0), 1);
        e.in("least 99: FETCHES", most.of(0, 4), 1);
    }

    private void toFetch() {
        e.edge(10, "To FETCH: COINS are PAY more, GRAINS become FULL, FETCHES are 1 more, in this order.");
        // PAY asks how all is ahead of the FETCH: no GRAINS, no FETCHES.
        LittleLeft x = Check.kitchen("full 99;pay 1 g=0;pay 2 f=0;pay 4 g=99;pay 8 f=1", 0, Check.a(TAKER, 0, 1));
        e.in("takes(0)", x.takes(0), 0);
        e.in("COINS", x.of(0, 5), 3);
        e.in("GRAINS at their fullest", x.told(0), 990);
        e.in("FETCHES", x.of(0, 4), 1);
        e.out("PAY behind that", x.of(0, 7), 12);
        LittleLeft none = Check.kitchen("full 0;pay 1 f=0;pay 2 f=1;pay 4 f=2", 4, Check.a(PROUD, 0, 1));
        e.in("twice: takes(0)", none.takes(0), 0);
        e.in("twice: COINS", none.of(0, 5), 3);
        e.in("twice: GRAINS at their least", none.told(0), 0);
        e.in("twice: FETCHES", none.of(0, 4), 2);
        e.out("PAY behind that", none.of(0, 7), 4);
    }

    private void wantsAsItBegins() {
        e.edge(10, "(WANTS by how all is as the TAKING begins.)");
        LittleLeft x = Check.kitchen("want 20 g<1;want 40 f=1", 9, Check.a(PROUD, 0, 10));
        e.in("takes(0) of 9", x.takes(0), 30);
        x.fill(10);
        e.out("takes(0) of 10, having FETCHED", x.takes(0), 50);
        LittleLeft told = Check.kitchen("want 20 g<1;want 40 f=1", 9, Check.a(TOLD, 0, 10));
        told.row(0, 0, 1);
        e.in("TOLD: takes(0) of 9", told.takes(0), 30);
        told.fill(10);
        e.out("TOLD: takes(0) of 10", told.takes(0), 5);
    }

    private void takerAndHalver() {
        e.edge(10, "TAKER: WANTS, but no more than G less least (0 at least).");
        in(TAKER, 30, 36, 30, 6, 0);
        in(TAKER, 30, 35, 30, 5, 0);
        out(TAKER, 30, 34, 29, 5, 0);
        out(TAKER, 30, 6, 1, 5, 0);
        out(TAKER, 30, 5, 0, 5, 0);
        out(TAKER, 30, 4, 0, 200, 1);
        out(TAKER, 30, 0, 0, 200, 1);
        in(TAKER, 1, 6, 1, 5, 0);
        in(TAKER, 60, 990, 60, 930, 0);

        e.edge(10, "HALVER: the half of G (cut), but WANTS at most.");
        in(HALVER, 30, 62, 30, 32, 0);
        in(HALVER, 30, 61, 30, 31, 0);
        in(HALVER, 30, 60, 30, 30, 0);
        out(HALVER, 30, 59, 29, 30, 0);
        out(HALVER, 30, 58, 29, 29, 0);
        out(HALVER, 30, 10, 5, 5, 0);
        out(HALVER, 30, 9, 4, 5, 0);
        out(HALVER, 30, 8, 4, 200, 1);
        out(HALVER, 30, 1, 0, 200, 1);
        out(HALVER, 30, 0, 0, 200, 1);
        in(HALVER, 60, 990, 60, 930, 0);
    }

    private void politeAndProud() {
        e.edge(10, "POLITE: as TAKER, but the half of WANTS (cut) in place of WANTS, if G is less than 2 times WANTS.");
        out(POLITE, 31, 62, 31, 31, 0);
        in(POLITE, 31, 61, 15, 46, 0);
        in(POLITE, 31, 20, 15, 5, 0);
        in(POLITE, 31, 19, 14, 5, 0);
        in(POLITE, 31, 5, 0, 5, 0);
        in(POLITE, 31, 4, 0, 200, 1);
        out(POLITE, 60, 990, 60, 930, 0);
        LittleLeft x = Check.kitchen("least 0", 1, Check.a(POLITE, 0, 1));
        e.in("who WANTS 1 of 1", x.takes(0), 0);
        x.fill(2);
        e.out("who WANTS 1 of 2", x.takes(0), 1);

        e.edge(10, "PROUD: FETCHES first, if G is less than WANTS and least, together; then as TAKER.");
        out(PROUD, 30, 36, 30, 6, 0);
        out(PROUD, 30, 35, 30, 5, 0);
        in(PROUD, 30, 34, 30, 170, 1);
        in(PROUD, 30, 0, 30, 170, 1);
        out(PROUD, 60, 990, 60, 930, 0);
        LittleLeft y = Check.kitchen("full 2;least 0", 30, Check.a(PROUD, 0, 30));
        e.out("least 0: takes(0) of 30", y.takes(0), 30);
        e.out("least 0: FETCHES", y.of(0, 4), 0);
        e.in("least 0: takes(0) of 0 by FULL 20", y.takes(0), 20);
        e.in("least 0: FETCHES", y.of(0, 4), 1);
    }

    private void greedyAndNew() {
        e.edge(10, "GREEDY: as HALVER, but 2 times WANTS at most.");
        in(GREEDY, 30, 122, 60, 62, 0);
        in(GREEDY, 30, 121, 60, 61, 0);
        in(GREEDY, 30, 120, 60, 60, 0);
        out(GREEDY, 30, 119, 59, 60, 0);
        out(GREEDY, 30, 118, 59, 59, 0);
        out(GREEDY, 30, 8, 4, 200, 1);
        out(GREEDY, 30, 1, 0, 200, 1);
        out(GREEDY, 30, 0, 0, 200, 1);
        in(GREEDY, 60, 990, 120, 870, 0);

        e.edge(10, "NEW: WANTS.");
        in(NEW, 30, 36, 30, 6, 0);
        in(NEW, 30, 35, 30, 5, 0);
        in(NEW, 30, 34, 30, 200, 1);
        in(NEW, 30, 31, 30, 200, 1);
        in(NEW, 30, 30, 30, 200, 1);
        out(NEW, 30, 29, 29, 200, 1);

        e.edge(10, "TAKES (G: GRAINS as it does; never more than these)");
        in(NEW, 60, 60, 60, 200, 1);
        out(NEW, 60, 59, 59, 200, 1);
        out(NEW, 60, 1, 1, 200, 1);
        out(NEW, 60, 0, 0, 200, 1);
        String want = "want 99 p<1";
        LittleLeft x = Check.kitchen((want + ";").repeat(7) + want, 852, Check.a(NEW, 0, 60));
        e.in("who WANTS 852 of 852", x.would(0, 0), 852);
        x.fill(851);
        e.out("who WANTS 852 of 851", x.would(0, 0), 851);
        x.fill(990);
        e.in("who WANTS 852 of 990", x.would(0, 0), 852);
    }

    private void told() {
        e.edge(10, "TOLD: FETCHES first, if G is less than 10 times its ROW (four numbers 0 .. 9; 0 at first) at DAY modulo 4;"
            + " then as TAKER.");
        out(TOLD, 30, 0, 0, 200, 1);
        LittleLeft x = one(TOLD, 30, 0);
        e.out("ROW 0: would(0, 2) of 0: behind it alone", x.would(0, 2), 1);
        e.out("ROW 0: would(0, 0) of 0", x.would(0, 0), 0);
        x.row(0, 0, 1);
        x.fill(10);
        e.out("ROW 1: would(0, 0) of 10", x.would(0, 0), 5);
        e.out("ROW 1: would(0, 2) of 10", x.would(0, 2), 0);
        x.fill(9);
        e.in("ROW 1: would(0, 0) of 9", x.would(0, 0), 30);
        e.in("ROW 1: would(0, 1) of 9", x.would(0, 1), 170);
        x.row(0, 0, 9);
        x.fill(90);
        e.out("ROW 9: would(0, 1) of 90", x.would(0, 1), 60);
        x.fill(89);
        e.in("ROW 9: would(0, 1) of 89", x.would(0, 1), 170);
        LittleLeft y = one(TOLD, 1, 50);
        y.row(0, 3, 9);
        for (int day = 0; day < 9; day++) {
            y.fill(50);
            if (day % 4 == 3) {
                e.in("on DAY " + day, y.would(0, 2), 1);
            } else {
                e.out("on DAY " + day, y.would(0, 2), 0);
            }
            y.day();
        }
    }

    private void day() {
        e.edge(11, "A DAY goes: how many FETCHES there were.");
        LittleLeft nobody = new LittleLeft();
        e.in("nobody", nobody.day(), 0);
        e.in("DAY", nobody.told(1), 1);
        LittleLeft most = Check.kitchen("full 0", 0, Check.a(PROUD, 0, 1), Check.a(PROUD, 0, 1),
            Check.a(PROUD, 0, 1), Check.a(PROUD, 0, 1), Check.a(PROUD, 0, 1), Check.a(PROUD, 0, 1));
        e.in("six, each twice", most.day(), 12);
        e.in("again: those of this DAY", most.day(), 12);
        e.in("FETCHES of all", most.told(4), 24);
        e.in("DAY", most.told(1), 2);
        most.fill(990);
        e.out("none", most.day(), 0);

        e.edge(11, "A DAY goes: all by numbers have a TAKING; DAY is 1 more.");
        LittleLeft x = Check.kitchen("", 10, Check.a(NEW, 0, 6), Check.a(NEW, 0, 60));
        e.in("day()", x.day(), 1);
        e.in("the first found 10: CUPS", x.of(0, 3), 1);
        e.in("the second found 200: GRAINS", x.told(0), 140);
        e.in("DAY", x.told(1), 1);
        x.takes(1);
        e.out("DAY behind a TAKING alone", x.told(1), 1);
    }

    /** There is no other way to DAY 9999 than more calls than are promised of one object. */
    private static LittleLeft late(int day) {
        LittleLeft x = Check.kitchen("full 11", 100, Check.a(NEW, 0, 3));
        for (int d = 0; d < day; d++) {
            x.day();
        }
        return x;
    }

    private void lastDay() {
        e.edge(11, "STATE: DAY is 9999.");
        LittleLeft x = late(9998);
        e.in("DAY", x.told(1), 9998);
        e.in("day() on 9998", x.day() >= 0 ? 1 : 0, 1);
        e.in("DAY", x.told(1), 9999);
        e.refused("day() on 9999", () -> late(9999), y -> y.day(), -3);
        e.in("takes(0) on 9999", x.takes(0), 3);

        e.edge(12, "goes on from how all is (DAYS also beyond 9999), and changes nothing");
        LittleLeft y = Check.kitchen("want 9 d=3;want 20 d=4", 100, Check.a(NEW, 0, 1), Check.a(TOLD, 0, 1));
        for (int d = 0; d < 9999; d++) {
            y.day();
        }
        y.fill(150);
        y.row(1, 0, 9);
        // DAY 9999 is 3 modulo 7 and modulo 4, DAY 10000 is 4 and 0.
        e.in("on(1, 0): 10 and 10 on DAY 9999", y.on(1, 0), 130);
        e.out("on(2, 0): 21 and 21 on DAY 10000", y.on(2, 0), 88);
        e.out("on(3, 0): 1 and 1 on DAY 10001", y.on(3, 0), 86);
        y.row(1, 0, 0);
        y.row(1, 1, 9);
        e.out("on(3, 1): one FETCHES first on DAY 10001", y.on(3, 1), 1);
        e.out("on(60, 0)", y.on(60, 0) >= 0 ? 1 : 0, 1);
        e.in("DAY stays", y.told(1), 9999);
    }

    private void on() {
        e.edge(12, "ON n DAYS (0 .. 60) from now");
        LittleLeft x = one(NEW, 1, 990);
        e.in("on(0, 0)", x.on(0, 0), 990);
        e.in("on(1, 0)", x.on(1, 0), 989);
        e.in("on(59, 0)", x.on(59, 0), 931);
        e.in("on(60, 0)", x.on(60, 0), 930);
        e.in("on(0, 10)", x.on(0, 10), 0);
        e.in("on(60, 10)", x.on(60, 10), 60);
        x.fill(64);
        e.in("on(59, 1)", x.on(59, 1), 0);
        e.in("on(60, 1)", x.on(60, 1), 1);
        e.in("on(60, 20)", x.on(60, 20), 1);
        for (int n : new int[] {-1, 61, MIN, MAX}) {
            for (int what : new int[] {0, 1, 2, 10, 14, 20, 24}) {
                e.refused("on(" + n + ", " + what + ")", y -> y.on(n, what), -2);
            }
        }
        LittleLeft nobody = new LittleLeft();
        e.in("on(60, 0) of nobody", nobody.on(60, 0), 100);
        e.in("on(60, 1) of nobody", nobody.on(60, 1), 0);
        e.in("on(60, 2) of nobody", nobody.on(60, 2), 0);
        e.out("on(61, 0) of nobody", nobody.on(61, 0), -2);
        e.out("told(1)", nobody.told(1), 0);
    }

    private void onWhat() {
        e.edge(12, "what 0 GRAINS, 1 FETCHES of all, 2 COINS of all, 10 and p CUPS, 20 and p FETCHES of that one. NONE; BAD: n.");
        LittleLeft x = Check.kitchen("full 0;pay 99 p=0;pay 1 p=5", 0, Check.a(PROUD, 0, 1), Check.a(PROUD, 0, 1),
            Check.a(PROUD, 0, 1), Check.a(PROUD, 0, 1), Check.a(PROUD, 0, 1), Check.a(NEW, 0, 1));
        e.in("on(60, 1): twice of five, once of the sixth", x.on(60, 1), 60 * 11);
        e.in("on(60, 2)", x.on(60, 2), 60 * 199);
        e.in("on(60, 10)", x.on(60, 10), 0);
        e.in("on(60, 15)", x.on(60, 15), 0);
        e.in("on(60, 20)", x.on(60, 20), 120);
        e.in("on(60, 25)", x.on(60, 25), 60);
        for (int p = 0; p < 6; p++) {
            x.takes(p);
        }
        e.in("on(1, 1): more, behind others", x.on(1, 1), 11);
        e.in("on(1, 2): more, behind others", x.on(1, 2), 199);
        e.in("on(1, 20): more, behind others", x.on(1, 20), 2);
        e.out("on(0, 1): none more", x.on(0, 1), 0);
        e.out("on(0, 2): none more", x.on(0, 2), 0);
        e.out("on(0, 20): none more", x.on(0, 20), 0);
        x.fill(990);
        x.takes(0);
        e.out("on(0, 10): none more", x.on(0, 10), 0);
        e.in("on(2, 10)", x.on(2, 10), 2);
        e.in("on(2, 15)", x.on(2, 15), 2);
        int[] none = {-1, 3, 9, 16, 19, 26, 30, MIN, MAX, MIN + 10, MIN + 20};
        for (int what : none) {
            e.refused("on(0, " + what + ") of six", EdgesDaysTest::six, y -> y.on(0, what), -1);
            e.refused("on(61, " + what + ") of six", EdgesDaysTest::six, y -> y.on(61, what), -1);
        }
        e.in("on(0, 14) of five", Whole.kitchen().on(0, 14), 0);
        e.in("on(0, 24) of five", Whole.kitchen().on(0, 24), 0);
        e.refused("on(0, 15) of five", y -> y.on(0, 15), -1);
        e.refused("on(0, 25) of five", y -> y.on(0, 25), -1);
        LittleLeft nobody = new LittleLeft();
        e.out("on(0, 10) of nobody", nobody.on(0, 10), -1);
        e.out("on(0, 20) of nobody", nobody.on(0, 20), -1);
    }

    private void would() {
        e.edge(13, "whether it FETCHES (once or twice: how often)");
        LittleLeft x = Check.kitchen("full 0", 6, Check.a(PROUD, 0, 1));
        e.out("would(0, 2) of 6", x.would(0, 2), 0);
        x.fill(5);
        e.in("would(0, 2) of 5", x.would(0, 2), 2);
        e.in("would(0, 1) of 5", x.would(0, 1), 0);
        e.in("would(0, 2) once", one(NEW, 1, 5).would(0, 2), 1);

        e.edge(13, "WOULD: what 0 TAKES, 1 GRAINS, 2 how often it FETCHES. NONE.");
        LittleLeft six = six();
        six.fill(990);
        e.in("would(5, 0)", six.would(5, 0), 65);
        e.in("would(0, 1)", six.would(0, 1), 965);
        e.in("would(5, 2)", six.would(5, 2), 0);
        for (int what : new int[] {-1, 3, MIN, MAX}) {
            e.refused("would(0, " + what + ")", y -> y.would(0, what), -1);
        }
        for (int taker : new int[] {-1, 6, MIN, MAX}) {
            e.refused("would(" + taker + ", 0)", EdgesDaysTest::six, y -> y.would(taker, 0), -1);
        }
        e.refused("would(5, 0) of five", y -> y.would(5, 0), -1);
        e.out("would(0, 0) of nobody", new LittleLeft().would(0, 0), -1);
    }

    private void next() {
        e.edge(14, "NEXT: what 0 who, 1 behind how many; -5. NONE.");
        LittleLeft x = six();
        x.fill(0);
        e.in("next(0)", x.next(0), 0);
        e.in("next(1)", x.next(1), 0);
        for (int what : new int[] {-1, 2, MIN, MAX}) {
            e.refused("next(" + what + ")", y -> y.next(what), -1);
        }
        LittleLeft last = Check.kitchen("", 10, Check.a(NEW, 0, 1), Check.a(NEW, 0, 1), Check.a(NEW, 0, 1),
            Check.a(NEW, 0, 1), Check.a(NEW, 0, 1), Check.a(NEW, 0, 1));
        e.in("the sixth: next(0)", last.next(0), 5);
        e.in("the sixth: next(1)", last.next(1), 0);
        last.fill(11);
        e.in("the first on the next DAY: next(0)", last.next(0), 0);
        e.in("the first on the next DAY: next(1)", last.next(1), 1);
        LittleLeft nobody = new LittleLeft();
        e.in("next(0) of nobody", nobody.next(0), -5);
        e.in("next(1) of nobody", nobody.next(1), -5);
        e.out("next(2) of nobody", nobody.next(2), -1);
    }

    private void nextDays() {
        e.edge(14, "NEXT: who FETCHES next on DAYS 0 .. 59 from now; how many DAYS go whole ahead of that (-5: nobody).");
        LittleLeft x = one(NEW, 1, 5);
        e.in("on DAY 0: next(1)", x.next(1), 0);
        x.fill(6);
        e.in("on DAY 1: next(1)", x.next(1), 1);
        x.fill(64);
        e.in("on DAY 59: next(1)", x.next(1), 59);
        e.in("on DAY 59: next(0)", x.next(0), 0);
        x.fill(65);
        e.out("on DAY 60: next(1)", x.next(1), -5);
        e.out("on DAY 60: next(0)", x.next(0), -5);
        // On DAY 6 of 7 alone it WANTS what there is.
        LittleLeft days = Check.kitchen("want 99 d=6&v=3", 100, Check.a(5, 3, 1));
        e.in("on DAY 6: next(1)", days.next(1), 6);
        days.fill(200);
        e.in("on DAY 13: next(1)", days.next(1), 13);
        days.fill(990);
        e.out("none on DAYS 6, 13 .. 55: next(1)", days.next(1), -5);
        Supplier<LittleLeft> nobody = () -> Whole.with(y -> y.fill(990));
        e.unchanged("next(1) of five", nobody, y -> y.next(1) >= 0 ? 1 : 0, 1);
    }
}

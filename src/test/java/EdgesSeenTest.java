import java.io.IOException;
import java.util.function.Supplier;

/** Edges of promises 19 to 22: few, pitied, see, who. */
public final class EdgesSeenTest {
    private static final int MIN = Integer.MIN_VALUE;
    private static final int MAX = Integer.MAX_VALUE;
    private final Edges e = new Edges("EdgesSeenTest");

    private EdgesSeenTest() throws IOException {
    }

    public static void main(String[] args) throws IOException {
        EdgesSeenTest test = new EdgesSeenTest();
        test.fewOf();
        test.fewTakings();
        test.fewLeft();
        test.few();
        test.pitiedDays();
        test.pitiedMost();
        test.see();
        test.seeSix();
        test.who();
        test.whoEachTime();
        test.e.end(19, 20, 21, 22);
    }

    private static LittleLeft six() {
        return Whole.with(x -> x.taker(0, 0, 60));
    }

    private static LittleLeft sixNew(int grains) {
        return Check.kitchen("", grains, Check.a(5, 0, 1), Check.a(5, 0, 1), Check.a(5, 0, 1), Check.a(5, 0, 1),
            Check.a(5, 0, 1), Check.a(5, 0, 1));
    }

    private void fewOf() {
        e.edge(19, "FEW of a number g (0 .. 99)");
        LittleLeft x = Check.kitchen("least 0", 1, Check.a(0, 0, 1));
        e.in("g 0, of 1", x.few(0, 0), -5);
        x.fill(100);
        e.in("g 99, of 100", x.few(99, 0), 0);
        for (int g : new int[] {-1, 100, MIN, MAX}) {
            e.refused("few(" + g + ", 0)", y -> y.few(g, 0), -2);
            e.refused("few(" + g + ", 1)", y -> y.few(g, 1), -2);
        }
    }

    private void fewTakings() {
        e.edge(19, "of TAKINGS 0 .. 299 from now on (by DAYS, from the first TAKER on)");
        LittleLeft one = Check.kitchen("", 100, Check.a(5, 0, 1));
        e.in("TAKING 0: few(99, 0)", one.few(99, 0), 0);
        one.fill(399);
        e.in("TAKING 299: few(99, 0)", one.few(99, 0), 299);
        e.in("TAKING 299: few(99, 1)", one.few(99, 1), 0);
        one.fill(400);
        e.out("TAKING 300: few(99, 0)", one.few(99, 0), -5);
        e.out("TAKING 300: few(99, 1)", one.few(99, 1), -5);
        LittleLeft six = sixNew(399);
        e.in("TAKING 299 of six: few(99, 0)", six.few(99, 0), 299);
        e.in("TAKING 299 of six: few(99, 1)", six.few(99, 1), 5);
        six.fill(394);
        e.in("TAKING 294 of six: few(99, 0)", six.few(99, 0), 294);
        e.in("TAKING 294 of six: few(99, 1)", six.few(99, 1), 0);
        six.fill(400);
        e.out("TAKING 300 of six: few(99, 0)", six.few(99, 0), -5);
        // DAYS go, too: on DAY 6 of 7, and on that alone, the second one WANTS 60 more.
        LittleLeft days = Check.kitchen("want 60 d=6&p=1", 173, Check.a(5, 0, 1), Check.a(5, 0, 1));
        e.in("on DAY 6: few(99, 0)", days.few(99, 0), 13);
        e.in("on DAY 6: few(99, 1)", days.few(99, 1), 1);
        e.out("told(1)", days.told(1), 0);
    }

    private void fewLeft() {
        e.edge(19, "the first by which one leaves 1 .. g GRAINS ahead of FETCHING, if it does (-5: none); whose it is");
        LittleLeft x = Check.kitchen("full 99;least 99", 41, Check.a(5, 0, 40));
        e.in("leaves 1: few(1, 0)", x.few(1, 0), 0);
        x.fill(42);
        e.in("leaves 2: few(2, 0)", x.few(2, 0), 0);
        e.out("leaves 2: few(1, 0)", x.few(1, 0), -5);
        x.fill(40);
        e.out("leaves 0: few(1, 0)", x.few(1, 0), -5);
        e.out("leaves 0: few(0, 0)", x.few(0, 0), -5);
        e.in("leaves 0, then 950 .. 110, 70: few(70, 0)", x.few(70, 0), 23);
        e.out("leaves 0, then 950 .. 110, 70: few(69, 0)", x.few(69, 0), -5);
        // It FETCHES first, to 30, and leaves 5 of these.
        LittleLeft proud = Check.kitchen("full 3", 4, Check.a(3, 0, 60));
        e.in("behind FETCHING first: few(5, 0)", proud.few(5, 0), 0);
        e.out("behind FETCHING first: few(4, 0)", proud.few(4, 0), -5);
        // FULL itself is not left by anyone.
        LittleLeft full = Check.kitchen("full 1;least 20", 0, Check.a(5, 0, 60));
        e.out("FULL is no few: few(99, 0)", full.few(99, 0), -5);
        LittleLeft nothing = Check.kitchen("", 4, Check.a(0, 0, 60));
        e.in("takes nothing of 4: few(4, 0)", nothing.few(4, 0), 0);
        e.out("takes nothing of 4: few(3, 0)", nothing.few(3, 0), -5);
    }

    private void few() {
        e.edge(19, "FEW: what 0 which, 1 whose; -5. NONE; BAD: g.");
        LittleLeft nobody = new LittleLeft();
        nobody.fill(1);
        e.in("few(99, 0) of nobody", nobody.few(99, 0), -5);
        e.in("few(99, 1) of nobody", nobody.few(99, 1), -5);
        // Nobody once more, where one was who left 49.
        nobody.image();
        nobody.taker(0, 0, 1);
        nobody.fill(50);
        e.in("few(99, 0) of one", nobody.few(99, 0), 0);
        nobody.undo();
        e.in("few(99, 0) of nobody again", nobody.few(99, 0), -5);
        e.out("few(100, 0) of nobody", nobody.few(100, 0), -2);
        e.out("few(99, 2) of nobody", nobody.few(99, 2), -1);
        for (int what : new int[] {-1, 2, MIN, MAX}) {
            e.refused("few(0, " + what + ")", y -> y.few(0, what), -1);
            e.refused("few(100, " + what + ")", y -> y.few(100, what), -1);
        }
        e.unchanged("few(99, 0) of six", EdgesSeenTest::six, y -> y.few(99, 0) >= 0 ? 1 : 0, 1);
    }

    private void pitiedDays() {
        e.edge(20, "PITIED of n DAYS (1 .. 60)");
        // On DAY 59 the second leaves 4 and FETCHES; the first never does.
        LittleLeft x = Check.kitchen("", 124, Check.a(0, 0, 1), Check.a(5, 0, 1));
        e.in("pitied(60)", x.pitied(60), 1);
        e.in("pitied(59)", x.pitied(59), 0);
        x.fill(126);
        e.in("pitied(60), FETCHING on DAY 60", x.pitied(60), 0);
        x.fill(6);
        e.in("pitied(1)", x.pitied(1), 1);
        for (int n : new int[] {0, -1, 61, MIN, MAX}) {
            e.refused("pitied(" + n + ")", y -> y.pitied(n), -2);
        }

        e.edge(20, "-5: nobody is there");
        LittleLeft nobody = new LittleLeft();
        e.in("pitied(1) of nobody", nobody.pitied(1), -5);
        e.in("pitied(60) of nobody", nobody.pitied(60), -5);
        e.out("pitied(0) of nobody", nobody.pitied(0), -2);
        e.out("pitied(61) of nobody", nobody.pitied(61), -2);
        nobody.taker(0, 0, 1);
        e.out("pitied(1) of one", nobody.pitied(1), 0);
    }

    private void pitiedMost() {
        e.edge(20, "whose FETCHES in these, by CUPS in these and 1, together, are most (compared as fractions; of several the first;");
        LittleLeft none = sixNew(990);
        e.in("nobody FETCHES: pitied(60)", none.pitied(60), 0);
        LittleLeft last = sixNew(10);
        e.in("the sixth alone: pitied(1)", last.pitied(1), 5);
        // All take 6 of 6 and FETCH.
        LittleLeft alike = Check.kitchen("full 1;least 20;want 9 p<9", 10, Check.a(5, 0, 1), Check.a(5, 0, 1), Check.a(5, 0, 1));
        e.in("all alike: pitied(1)", alike.pitied(1), 0);
        e.in("all alike: pitied(60)", alike.pitied(60), 0);
        // 1 by 2 for the first, who takes, and 1 by 1 for the second, who does not.
        LittleLeft cups = Check.kitchen("full 0", 9, Check.a(5, 0, 60), Check.a(0, 0, 60));
        e.out("who takes nothing: pitied(1)", cups.pitied(1), 1);
        // 1 by 1 for the first; 2 by 1 for the second, who FETCHES first, too.
        LittleLeft twice = Check.kitchen("full 0", 0, Check.a(0, 0, 60), Check.a(3, 0, 60));
        e.out("who FETCHES twice: pitied(1)", twice.pitied(1), 1);
        // 59 by 61 and 60 by 61: alike but for one FETCH.
        LittleLeft one = Check.kitchen("full 2;least 20", 21, Check.a(5, 0, 1), Check.a(5, 0, 1));
        e.out("one FETCH more: on(60, 20)", one.on(60, 20), 59);
        e.out("one FETCH more: on(60, 21)", one.on(60, 21), 60);
        e.out("one FETCH more: pitied(60)", one.pitied(60), 1);
        e.in("one FETCH by the second alone: pitied(1)", one.pitied(1), 1);
        // The first FETCHED ahead of these DAYS, the second took.
        LittleLeft ahead = Check.kitchen("", 6, Check.a(5, 0, 1), Check.a(5, 0, 1));
        ahead.fill(0);
        ahead.takes(0);
        for (int n = 0; n < 9; n++) {
            ahead.takes(1);
        }
        ahead.fill(6);
        e.out("what was ahead does not count: pitied(1)", ahead.pitied(1), 1);
        e.unchanged("pitied(60) of six", EdgesSeenTest::six, y -> y.pitied(60) >= 0 ? 1 : 0, 1);
    }

    private void see() {
        e.edge(21, "BAD: found, left (0 .. 990)");
        LittleLeft x = new LittleLeft();
        e.in("see(0, 0)", x.see(0, 0), 1);
        e.in("see(990, 990)", x.see(990, 990), 2);
        for (int n : new int[] {991, MIN, MAX}) {
            e.refused("see(" + n + ", 0)", y -> y.see(n, 0), -2);
            e.refused("see(0, " + n + ")", y -> y.see(0, n), -2);
        }
        e.refused("see(-2, 0)", y -> y.see(-2, 0), -2);
        e.refused("see(0, -1)", y -> y.see(0, -1), -2);
        e.refused("see(991, -1)", y -> y.see(991, -1), -2);

        e.edge(21, "found -1: none then, 0, whatever the other is");
        for (int left : new int[] {0, 990, 991, -1, MIN, MAX}) {
            LittleLeft y = Whole.kitchen();
            e.out("count(2) ahead", y.count(2), 2);
            e.in("see(-1, " + left + ")", y.see(-1, left), 0);
            e.in("count(2) behind", y.count(2), 0);
            e.in("who(): all five", y.who(), 31);
            e.out("see(1, 1) behind", y.see(1, 1), 1);
        }
        e.in("see(-1, 0) of none", new LittleLeft().see(-1, 0), 0);
    }

    private void seeSix() {
        e.edge(21, "What is SEEN comes: how many there are (found -1: none then, 0, whatever the other is)."
            + " BAD: found, left (0 .. 990); FULL: 6.");
        LittleLeft x = new LittleLeft();
        for (int n = 1; n <= 6; n++) {
            e.in("see(" + n + ", 990)", x.see(n, 990), n);
            e.in("count(2)", x.count(2), n);
        }
        Supplier<LittleLeft> six = () -> Whole.with(y -> {
            for (int n = 2; n < 6; n++) {
                y.see(100, 66);
            }
        });
        e.in("count(2)", six.get().count(2), 6);
        e.refused("see(0, 0) of six", six, y -> y.see(0, 0), -4);
        e.refused("see(990, 990) of six", six, y -> y.see(990, 990), -4);
        e.refused("see(991, 0) of six", six, y -> y.see(991, 0), -2);
        e.refused("see(0, 991) of six", six, y -> y.see(0, 991), -2);
        e.refused("see(-2, 0) of six", six, y -> y.see(-2, 0), -2);
        LittleLeft y = six.get();
        e.in("see(-1, 0) of six", y.see(-1, 0), 0);
        e.in("see(0, 0) behind that", y.see(0, 0), 1);
    }

    private void who() {
        e.edge(22, "WHO: those TAKERS, as bits");
        LittleLeft x = sixNew(100);
        e.in("nothing is SEEN, of six", x.who(), 63);
        x.see(50, 49);
        e.in("as all do", x.who(), 63);
        x.portion(5, 2);
        e.in("as five do", x.who(), 31);
        x.portion(0, 2);
        e.in("as four do", x.who(), 30);
        x.see(-1, 0);
        x.see(50, 48);
        e.in("as the first and the sixth do", x.who(), 33);
        x.see(50, 47);
        e.out("as nobody does", x.who(), 0);
        LittleLeft nobody = new LittleLeft();
        e.out("nobody is there", nobody.who(), 0);
        nobody.see(5, 5);
        e.out("nobody is there, and something is SEEN", nobody.who(), 0);

        e.edge(22, "leave just these, having found those, each time (behind FETCHING, too)");
        LittleLeft y = Check.kitchen("full 99;least 1", 100, Check.a(5, 0, 1), Check.a(5, 0, 2), Check.a(0, 0, 60));
        y.see(990, 989);
        e.in("of 990", y.who(), 1);
        y.see(-1, 0);
        y.see(0, 990);
        e.in("of 0, behind FETCHING", y.who(), 7);
        y.see(-1, 0);
        y.see(0, 0);
        e.out("of 0, ahead of FETCHING", y.who(), 0);
        y.see(-1, 0);
        y.see(2, 990);
        e.in("of 2, behind FETCHING", y.who(), 2);
        y.see(-1, 0);
        y.see(2, 0);
        e.out("of 2, ahead of FETCHING", y.who(), 0);
        y.see(-1, 0);
        y.see(2, 1);
        e.in("of 2, without FETCHING", y.who(), 5);
    }

    private void whoEachTime() {
        e.edge(22, "who by a TAKING on this DAY leave just these, having found those, each time");
        LittleLeft x = Check.kitchen("want 9 d=6", 100, Check.a(5, 0, 1), Check.a(5, 0, 2));
        for (int n = 1; n <= 5; n++) {
            x.see(100 * n, 100 * n - 1);
        }
        e.in("five times", x.who(), 1);
        x.see(600, 599);
        e.in("six times", x.who(), 1);
        LittleLeft y = Check.kitchen("", 100, Check.a(5, 0, 1), Check.a(5, 0, 2));
        for (int n = 1; n <= 5; n++) {
            y.see(100 * n, 100 * n - 1);
        }
        y.see(600, 598);
        e.out("otherwise the sixth time", y.who(), 0);
        LittleLeft z = Check.kitchen("", 100, Check.a(5, 0, 1), Check.a(5, 0, 2));
        z.see(100, 98);
        for (int n = 2; n <= 6; n++) {
            z.see(100 * n, 100 * n - 1);
        }
        e.out("otherwise the first time", z.who(), 0);
        for (int day = 0; day < 6; day++) {
            x.day();
        }
        e.out("on DAY 6, when they WANT more", x.who(), 0);
        x.day();
        e.in("on DAY 7", x.who(), 1);
        e.unchanged("who() of six", EdgesSeenTest::six, v -> v.who() >= 0 ? 1 : 0, 1);
    }
}

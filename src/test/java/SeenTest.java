/** Promises 19 to 22: few, pitied, see, who. */
public final class SeenTest {
    private static final Check CHECK = new Check("SeenTest");

    public static void main(String[] args) {
        few();
        pitied();
        see();
        who();
        CHECK.end();
    }

    private static void due(String call, long got, long want) {
        CHECK.due(call, got, want);
    }

    private static void few() {
        LittleLeft x = Check.kitchen("", 100, Check.a(5, 0, 30));
        // 70, 40, 10, 0 (fetched: 200), 170, 140, .. 20, 0, ..
        due("few(10, 0)", x.few(10, 0), 2);
        due("few(10, 1)", x.few(10, 1), 0);
        due("few(9, 0): 0 are not few", x.few(9, 0), -5);
        due("few(9, 1)", x.few(9, 1), -5);
        due("few(70, 0)", x.few(70, 0), 0);
        due("few(69, 0)", x.few(69, 0), 1);
        due("few(0, 0)", x.few(0, 0), -5);
        due("few(100, 0)", x.few(100, 0), -2);
        due("few(-1, 0)", x.few(-1, 0), -2);
        due("few(99, 2)", x.few(99, 2), -1);
        due("few(-1, -1): what first", x.few(-1, -1), -1);
        due("nothing has changed", x.told(0) + x.told(1) + x.of(0, 3), 100);
        // 50, 25, 13, 7, 4: these are left ahead of FETCHING.
        LittleLeft ahead = Check.kitchen("", 100, Check.a(1, 0, 60));
        due("ahead of FETCHING: few(4, 0)", ahead.few(4, 0), 4);
        due("few(7, 0)", ahead.few(7, 0), 3);
        // It fetches first, to 10, and takes 5.
        LittleLeft behind = Check.kitchen("full 1", 3, Check.a(3, 0, 30));
        due("behind FETCHING first: few(5, 0)", behind.few(5, 0), 0);
        due("few(4, 0)", behind.few(4, 0), -5);
        LittleLeft none = Check.kitchen("", 3, Check.a(0, 0, 30));
        due("one who takes nothing leaves 3: few(3, 0)", none.few(3, 0), 0);
        LittleLeft one = Check.kitchen("", 10, Check.a(5, 0, 9));
        due("1 is few: few(1, 0)", one.few(1, 0), 0);
        LittleLeft three = Check.kitchen("want 20 d=1", 100, Check.a(5, 0, 9), Check.a(5, 0, 10), Check.a(5, 0, 11));
        // DAY 0: 91, 81, 70; DAY 1: 41, 11, 0.
        due("three: few(11, 0)", three.few(11, 0), 4);
        due("three: few(11, 1)", three.few(11, 1), 1);
        LittleLeft last = Check.kitchen("", 399, Check.a(5, 0, 1));
        due("the last of 300: few(99, 0)", last.few(99, 0), 299);
        due("few(98, 0)", last.few(98, 0), -5);
        last.fill(400);
        due("one too late: few(99, 0)", last.few(99, 0), -5);
        LittleLeft shared = Check.kitchen("", 399, Check.a(5, 0, 1), Check.a(5, 0, 1), Check.a(5, 0, 1), Check.a(5, 0, 1));
        due("the last of 300, of four: few(99, 0)", shared.few(99, 0), 299);
        due("few(99, 1)", shared.few(99, 1), 3);
        LittleLeft nobody = new LittleLeft();
        due("nobody: few(99, 0)", nobody.few(99, 0), -5);
        due("nobody: few(99, 3)", nobody.few(99, 3), -1);
        due("nobody: few(100, 0)", nobody.few(100, 0), -2);
    }

    private static void pitied() {
        LittleLeft x = Check.kitchen("", 100, Check.a(0, 0, 30), Check.a(5, 0, 50));
        due("pitied(1): nobody fetches, so the first", x.pitied(1), 0);
        due("pitied(2)", x.pitied(2), 1);
        due("pitied(0)", x.pitied(0), -2);
        due("pitied(61)", x.pitied(61), -2);
        due("pitied(60)", x.pitied(60), 1);
        due("nothing has changed", x.told(0) + x.told(4), 100);
        // The first fetches without taking (1 by 1), the second fetches having taken (1 by 2).
        LittleLeft cups = Check.kitchen("full 6", 3, Check.a(0, 0, 60), Check.a(5, 0, 60));
        due("cups: pitied(1)", cups.pitied(1), 0);
        // The first takes all and fetches (1 by 2); the second fetches first, takes nothing, fetches (2 by 1).
        LittleLeft twice = Check.kitchen("full 0", 9, Check.a(5, 0, 60), Check.a(3, 0, 60));
        due("twice: pitied(1)", twice.pitied(1), 1);
        // Each fetches once, the first having taken (1 by 2), the second not (1 by 1).
        LittleLeft second = Check.kitchen("full 0", 9, Check.a(5, 0, 60), Check.a(0, 0, 60));
        due("second: pitied(1)", second.pitied(1), 1);
        // Two alike: on each DAY both fetch.
        LittleLeft alike = Check.kitchen("full 6", 9, Check.a(5, 0, 60), Check.a(5, 0, 60));
        due("alike: on(1, 20)", alike.on(1, 20), 1);
        due("alike: on(1, 21)", alike.on(1, 21), 1);
        due("alike: pitied(1)", alike.pitied(1), 0);
        // What was ahead of these DAYS does not count.
        LittleLeft later = Check.kitchen("", 0, Check.a(5, 0, 1), Check.a(5, 0, 60));
        later.takes(0);
        due("later: its FETCHES", later.of(0, 4), 1);
        due("later: pitied(4)", later.pitied(4), 1);
        LittleLeft nobody = new LittleLeft();
        due("nobody: pitied(1)", nobody.pitied(1), -5);
        due("nobody: pitied(61)", nobody.pitied(61), -2);
    }

    private static void see() {
        LittleLeft x = new LittleLeft();
        due("see(990, 0)", x.see(990, 0), 1);
        due("see(0, 990)", x.see(0, 990), 2);
        due("see(991, 0)", x.see(991, 0), -2);
        due("see(0, 991)", x.see(0, 991), -2);
        due("see(0, -1)", x.see(0, -1), -2);
        due("see(-2, 0)", x.see(-2, 0), -2);
        due("count(2)", x.count(2), 2);
        for (int n = 3; n <= 6; n++) {
            due("see(5, 5)", x.see(5, 5), n);
        }
        due("a seventh", x.see(5, 5), -4);
        due("a bad seventh", x.see(5, 991), -2);
        due("see(-1, 991)", x.see(-1, 991), 0);
        due("count(2)", x.count(2), 0);
        due("see(1, 1)", x.see(1, 1), 1);
        due("see(-1, -7)", x.see(-1, -7), 0);
    }

    private static void who() {
        LittleLeft x = Check.kitchen("", 100, Check.a(0, 0, 30), Check.a(1, 0, 30), Check.a(5, 0, 30));
        due("nothing SEEN: all", x.who(), 7);
        x.see(100, 70);
        due("who() by 100, 70", x.who(), 7);
        x.see(20, 5);
        due("who() by 20, 5", x.who(), 1);
        x.see(100, 71);
        due("who() by 100, 71", x.who(), 0);
        x.see(-1, 0);
        x.see(20, 10);
        due("who() by 20, 10", x.who(), 2);
        x.see(-1, 0);
        x.see(20, 200);
        due("who() behind FETCHING", x.who(), 4);
        x.see(20, 200);
        due("each from how all is", x.who(), 4);
        x.see(-1, 0);
        x.see(4, 200);
        due("all of 4", x.who(), 7);
        due("nothing has changed", x.told(0) + x.told(4), 100);
        LittleLeft day = Check.kitchen("want 9 d=1;want 3 f=0", 0, Check.a(5, 0, 10));
        day.see(50, 37);
        day.see(40, 27);
        due("on DAY 0", day.who(), 1);
        day.day();
        due("on DAY 1, having fetched", day.who(), 0);
        day.see(-1, 0);
        day.see(50, 31);
        due("on DAY 1: 19", day.who(), 1);
        due("nobody", new LittleLeft().who(), 0);
    }
}

import java.io.IOException;
import java.util.function.ToLongFunction;

/** Edges of what all promises share: what is asked, inside or outside, changes nothing. */
public final class EdgesAnswersTest {
    private static final long NO = Long.MIN_VALUE;
    private final Edges e = new Edges("EdgesAnswersTest");

    private EdgesAnswersTest() throws IOException {
    }

    public static void main(String[] args) throws IOException {
        EdgesAnswersTest test = new EdgesAnswersTest();
        test.takersAndDays();
        test.better();
        test.others();
        test.constants();
        test.e.end(3, 9, 12, 13, 14, 15, 16, 17, 18, 19, 20, 22, 23, 24, 26, 27, 31, 32, 33, 36);
    }

    /** What is asked inside, and outside with what it answers there. */
    private void asked(int promise, ToLongFunction<LittleLeft> inside, ToLongFunction<LittleLeft> outside, long want) {
        e.edge(promise, "What is answered so changes nothing; what is asked changes nothing.");
        e.unchanged("inside", Whole::kitchen, inside, inside.applyAsLong(Whole.kitchen()));
        e.refused("outside", outside, want);
    }

    private void takersAndDays() {
        asked(3, x -> x.of(4, 6) + x.of(4, 7), x -> x.of(4, 8), -1);
        asked(9, x -> x.told(4), x -> x.told(5), -1);
        asked(12, x -> x.on(60, 0), x -> x.on(61, 0), -2);
        asked(12, x -> x.on(60, 14), x -> x.on(60, 15), -1);
        asked(12, x -> x.on(60, 24), x -> x.on(60, 25), -1);
        asked(13, x -> x.would(4, 2), x -> x.would(4, 3), -1);
        asked(14, x -> x.next(1), x -> x.next(2), -1);
    }

    private void better() {
        asked(15, x -> x.least(10, 0), x -> x.least(11, 0), -2);
        asked(16, x -> x.full(10, 0), x -> x.full(11, 0), -2);
        asked(17, x -> x.order(4), x -> x.order(5), -1);
        asked(18, x -> x.without(4, 30), x -> x.without(4, 31), -10002);
        asked(19, x -> x.few(99, 1), x -> x.few(100, 1), -2);
        asked(20, x -> x.pitied(60), x -> x.pitied(61), -2);
    }

    private void others() {
        asked(22, x -> x.who(), x -> x.see(1, 991), -2);
        asked(23, x -> x.odds(4, 30, 1), x -> x.odds(4, 31, 1), NO);
        asked(24, x -> x.mean(60, 1), x -> x.mean(61, 1), NO);
        asked(26, x -> x.looked(), x -> x.book(1000), -2);
        asked(27, x -> x.judge(5, 0) + x.judge(0, 0), x -> x.judge(6, 0), -1);
        asked(31, x -> x.trace(5), x -> x.trace(6), -1);
        asked(32, x -> x.taken(4, 1), x -> x.taken(4, 2), -12);
        asked(33, x -> x.count(5), x -> x.count(6), -2);
        asked(36, x -> x.read(5, 1), x -> x.read(5, 2), NO);
    }

    private void constants() {
        e.edge(36, "NONE (-1) no such number; BAD (-2) a number is not as told; STATE (-3) as told; FULL (-4)");
        e.in("NONE", LittleLeft.NONE, -1);
        e.in("BAD", LittleLeft.BAD, -2);
        e.in("STATE", LittleLeft.STATE, -3);
        e.in("FULL", LittleLeft.FULL, -4);
        e.out("NO", LittleLeft.NO, Long.MIN_VALUE);
    }
}

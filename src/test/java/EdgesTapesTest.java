import java.io.IOException;
import java.util.function.Supplier;

/** Edges of promises 27 and 34 to 37: judge, tape, item, read, shift. */
public final class EdgesTapesTest {
    private static final long NO = Long.MIN_VALUE;
    private static final int MIN = Integer.MIN_VALUE;
    private static final int MAX = Integer.MAX_VALUE;
    private static final int BYTES = 0, SHORTS = 1, INTS = 2, LONGS = 3, BOOLEANS = 4;
    private final Edges e = new Edges("EdgesTapesTest");

    private EdgesTapesTest() throws IOException {
    }

    public static void main(String[] args) throws IOException {
        EdgesTapesTest test = new EdgesTapesTest();
        test.judgeWhich();
        test.judgePlaces();
        test.judgeFirst();
        test.judgeNobody();
        test.tapes();
        test.tapeSizes();
        test.tapeSorts();
        test.tapeAnew();
        test.item();
        test.itemBits();
        test.read();
        test.shiftWhich();
        test.shiftPlaces();
        test.shiftNone();
        test.shiftItems();
        test.e.end(27, 34, 35, 36, 37);
    }

    /** Six whose FETCHES are 1 .. 6, and these as a row of ints on TAPE 0 from place 3 on. */
    private static LittleLeft six() {
        LittleLeft x = Check.kitchen("", 0);
        for (int p = 0; p < 6; p++) {
            x.taker(0, 0, 1);
            for (int n = 0; n <= p; n++) {
                x.fill(0);
                x.takes(p);
            }
        }
        x.tape(0, INTS, 9);
        for (int p = 0; p < 6; p++) {
            x.item(0, 3 + p, p + 1);
        }
        return x;
    }

    private void judgeWhich() {
        e.edge(27, "JUDGED from place i of a TAPE on. NONE: tape; CAST: it is no row of ints.");
        LittleLeft x = six();
        x.tape(5, INTS, 6);
        x.shift(0, 3, 5, 0, 6);
        e.in("judge(0, 3)", x.judge(0, 3), -5);
        e.in("judge(5, 0)", x.judge(5, 0), -5);
        for (int tape : new int[] {-1, 6, MIN, MAX}) {
            e.refused("judge(" + tape + ", 0)", y -> y.judge(tape, 0), -1);
            e.refused("judge(" + tape + ", -1)", y -> y.judge(tape, -1), -1);
        }
        for (int sort : new int[] {BYTES, SHORTS, LONGS, BOOLEANS}) {
            for (int place : new int[] {-1, 0, 1}) {
                e.refused("judge(2, " + place + ") of sort " + sort, () -> Whole.with(y -> y.tape(2, sort, 1)),
                    y -> y.judge(2, place), -12);
            }
            x.tape(1, sort, 0);
            e.out("judge(1, 0) of an empty row of sort " + sort, x.judge(1, 0), -12);
        }
        e.out("judge(0, 3) as before", x.judge(0, 3), -5);
    }

    private void judgePlaces() {
        e.edge(27, "100 and how many were looked at, if the row ends ahead of that (or the place is below 0, or the TAPE holds nothing)");
        LittleLeft x = six();
        e.in("the row ends behind the sixth", x.judge(0, 3), -5);
        for (int place : new int[] {-1, MIN, 9, 10, MAX, MAX - 5}) {
            e.out("judge(0, " + place + ")", x.judge(0, place), 100);
        }
        e.in("the last place: otherwise", x.judge(0, 8), 0);
        x.item(0, 8, 1);
        e.out("the last place: one is looked at", x.judge(0, 8), 101);
        for (int size = 0; size < 6; size++) {
            x.tape(1, INTS, size);
            for (int p = 0; p < size; p++) {
                x.item(1, p, p + 1);
            }
            e.out("a row of " + size, x.judge(1, 0), 100 + size);
        }
        for (int place : new int[] {0, -1, 5, MIN, MAX}) {
            e.out("nothing: judge(2, " + place + ")", x.judge(2, place), 100);
        }
        x.tape(1, INTS, 60);
        x.tape(1, -1, 60);
        e.out("nothing again: judge(1, 0)", x.judge(1, 0), 100);
        e.out("nothing again: judge(1, 59)", x.judge(1, 59), 100);
        e.refused("judge(4, 0) of nothing", y -> y.judge(4, 0), 100);
        e.refused("judge(0, -1)", y -> y.judge(0, -1), 100);
        e.refused("judge(0, 3) at its end", y -> y.judge(0, 3), 100);
    }

    private void judgeFirst() {
        e.edge(27, "TAKER by TAKER, are JUDGED: the first that is otherwise; -5: none");
        LittleLeft x = six();
        e.in("none", x.judge(0, 3), -5);
        for (int p = 5; p >= 0; p--) {
            x.item(0, 3 + p, p + 2);
            e.out("from the last one on: " + p, x.judge(0, 3), p);
        }
        LittleLeft y = six();
        y.tape(1, INTS, 60);
        y.shift(0, 3, 1, 54, 6);
        e.in("the last places of 60", y.judge(1, 54), -5);
        e.out("one ahead of these", y.judge(1, 53), 0);
        y.item(1, 59, 7);
        e.out("the last place otherwise", y.judge(1, 54), 5);
        // 4294967297 is 1 as an int.
        y.item(1, 54, 4294967297L);
        y.item(1, 59, 6);
        e.in("what an int keeps", y.judge(1, 54), -5);
        y.taker(0, 0, 1);
        e.in("no seventh", y.judge(1, 54), -5);
    }

    private void judgeNobody() {
        e.edge(27, "-5: none, or there is none to look at");
        LittleLeft nobody = new LittleLeft();
        nobody.tape(0, INTS, 1);
        nobody.tape(1, INTS, 0);
        nobody.tape(2, LONGS, 1);
        for (int place : new int[] {0, 1, 2, -1, MIN, MAX}) {
            e.in("nobody: judge(0, " + place + ")", nobody.judge(0, place), -5);
            e.in("nobody: judge(1, " + place + ") of an empty row", nobody.judge(1, place), -5);
            e.in("nobody: judge(5, " + place + ") of nothing", nobody.judge(5, place), -5);
            e.out("nobody: judge(2, " + place + ") of longs", nobody.judge(2, place), -12);
            e.out("nobody: judge(6, " + place + ")", nobody.judge(6, place), -1);
        }
        nobody.taker(0, 0, 1);
        e.out("one: judge(5, 0) of nothing", nobody.judge(5, 0), 100);
        e.out("one: judge(0, -1)", nobody.judge(0, -1), 100);
        e.in("one: judge(0, 0)", nobody.judge(0, 0), -5);
    }

    private void tapes() {
        e.edge(34, "TAPES 0 .. 5 hold nothing (at first)");
        LittleLeft x = new LittleLeft();
        for (int tape = 0; tape < 6; tape++) {
            e.in("item(" + tape + ", 0, 1) of nothing", x.item(tape, 0, 1), -11);
            e.in("tape(" + tape + ", 3, 1)", x.tape(tape, LONGS, 1), 1);
            e.in("item(" + tape + ", 0, ..)", x.item(tape, 0, tape + 7), 1);
        }
        for (int tape = 0; tape < 6; tape++) {
            e.in("read(" + tape + ", 0)", x.read(tape, 0), tape + 7);
        }
        for (int tape : new int[] {-1, 6, MIN, MAX}) {
            e.refused("tape(" + tape + ", 0, 1)", y -> y.tape(tape, 0, 1), -1);
            e.refused("tape(" + tape + ", 5, -1)", y -> y.tape(tape, 5, -1), -1);
            e.refused("tape(" + tape + ", -1, 0)", y -> y.tape(tape, -1, 0), -1);
        }
    }

    private void tapeSizes() {
        e.edge(34, "A TAPE becomes a row of n (0 .. 60) of a sort, all 0");
        LittleLeft x = new LittleLeft();
        for (int sort = BYTES; sort <= BOOLEANS; sort++) {
            e.in("tape(0, " + sort + ", 60)", x.tape(0, sort, 60), 1);
            for (int i = 0; i < 60; i += 59) {
                e.in("read(0, " + i + ")", x.read(0, i), 0);
                e.in("item(0, " + i + ", 1)", x.item(0, i, 1), 1);
            }
            e.out("read(0, 60)", x.read(0, 60), NO);
            e.in("tape(0, " + sort + ", 60) anew", x.tape(0, sort, 60), 1);
            e.in("read(0, 59)", x.read(0, 59), 0);
            e.in("tape(0, " + sort + ", 1)", x.tape(0, sort, 1), 1);
            e.in("read(0, 0)", x.read(0, 0), 0);
            e.out("read(0, 1)", x.read(0, 1), NO);
            e.in("tape(0, " + sort + ", 0)", x.tape(0, sort, 0), 1);
            e.out("read(0, 0)", x.read(0, 0), NO);
            e.in("item(0, 0, 1): no place, but not nothing", x.item(0, 0, 1), -13);
        }

        e.edge(34, "NONE: tape; BAD: sort, n above 60; SIZE.");
        for (int sort = BYTES; sort <= BOOLEANS; sort++) {
            int itsSort = sort;
            e.in("tape(5, " + sort + ", 60)", x.tape(5, sort, 60), 1);
            e.refused("tape(0, " + sort + ", 61)", y -> y.tape(0, itsSort, 61), -2);
            e.refused("tape(0, " + sort + ", MAX)", y -> y.tape(0, itsSort, MAX), -2);
            e.refused("tape(0, " + sort + ", -1)", y -> y.tape(0, itsSort, -1), -14);
            e.refused("tape(0, " + sort + ", MIN)", y -> y.tape(0, itsSort, MIN), -14);
        }
        for (int sort : new int[] {-2, 5, MIN, MAX}) {
            for (int n : new int[] {0, 60, 61, -1}) {
                e.refused("tape(0, " + sort + ", " + n + ")", y -> y.tape(0, sort, n), -2);
            }
        }
    }

    private void tapeSorts() {
        e.edge(34, "or holds nothing (sort -1: n does not matter): 1");
        for (int n : new int[] {0, 60, 61, -1, MIN, MAX}) {
            LittleLeft x = Whole.kitchen();
            e.out("ahead: item(0, 0, 1)", x.item(0, 0, 1), 1);
            e.in("tape(0, -1, " + n + ")", x.tape(0, -1, n), 1);
            e.in("item(0, 0, 1)", x.item(0, 0, 1), -11);
            e.in("read(0, 0)", x.read(0, 0), NO);
            e.in("tape(4, -1, " + n + ") of nothing", x.tape(4, -1, n), 1);
            e.out("tape(4, -2, " + n + ")", x.tape(4, -2, n), -2);
            e.in("tape(0, 2, 1)", x.tape(0, INTS, 1), 1);
            e.in("read(0, 0): all 0", x.read(0, 0), 0);
        }
    }

    private void tapeAnew() {
        e.edge(34, "all 0, or holds nothing");
        LittleLeft x = new LittleLeft();
        x.tape(0, LONGS, 2);
        x.item(0, 1, -1);
        e.out("ahead: read(0, 1)", x.read(0, 1), -1);
        for (int sort = BYTES; sort <= BOOLEANS; sort++) {
            e.in("tape(0, " + sort + ", 2)", x.tape(0, sort, 2), 1);
            e.in("read(0, 1)", x.read(0, 1), 0);
            x.item(0, 1, -1);
            e.out("behind an item: read(0, 1)", x.read(0, 1), sort == BOOLEANS ? 1 : -1);
        }
        x.tape(0, BYTES, 1);
        x.tape(0, BYTES, 2);
        e.in("shorter, then longer: read(0, 1)", x.read(0, 1), 0);
    }

    private void item() {
        e.edge(35, "NONE; NOTHING; PLACE.");
        LittleLeft x = Whole.kitchen();
        e.in("item(0, 0, 5)", x.item(0, 0, 5), 1);
        e.in("item(0, 2, 6)", x.item(0, 2, 6), 1);
        e.in("item(5, 1, 1)", x.item(5, 1, 1), 1);
        for (int tape : new int[] {-1, 6, MIN, MAX}) {
            e.refused("item(" + tape + ", 0, 1)", y -> y.item(tape, 0, 1), -1);
            e.refused("item(" + tape + ", -1, 1)", y -> y.item(tape, -1, 1), -1);
        }
        for (int place : new int[] {-1, 0, 1, MIN, MAX}) {
            e.refused("item(2, " + place + ", 1) of nothing", y -> y.item(2, place, 1), -11);
        }
        for (int place : new int[] {-1, 3, 60, MIN, MAX}) {
            e.refused("item(0, " + place + ", 1)", y -> y.item(0, place, 1), -13);
        }
        e.refused("item(1, 2, 1)", y -> y.item(1, 2, 1), -13);
        x.tape(2, LONGS, 60);
        e.in("item(2, 59, 9)", x.item(2, 59, 9), 1);
        e.in("read(2, 59)", x.read(2, 59), 9);
        e.out("item(2, 60, 9)", x.item(2, 60, 9), -13);
        x.tape(2, LONGS, 0);
        e.out("item(2, 0, 9) of an empty row", x.item(2, 0, 9), -13);
    }

    private void bits(LittleLeft x, int sort, long in, long out, long wraps) {
        e.in("item of sort " + sort + ": " + in, x.item(sort, 0, in), 1);
        e.in("read of " + in, x.read(sort, 0), in);
        e.out("item of sort " + sort + ": " + out, x.item(sort, 0, out), 1);
        e.out("read of " + out, x.read(sort, 0), wraps);
    }

    private void itemBits() {
        e.edge(35, "Item i of a TAPE becomes v (its lowest bits, as many as an item has; booleans: whether v is not 0): 1.");
        LittleLeft x = new LittleLeft();
        for (int sort = BYTES; sort <= BOOLEANS; sort++) {
            x.tape(sort, sort, 1);
        }
        bits(x, BYTES, 127, 128, -128);
        bits(x, BYTES, -128, -129, 127);
        bits(x, BYTES, -1, 256, 0);
        bits(x, SHORTS, 32767, 32768, -32768);
        bits(x, SHORTS, -32768, -32769, 32767);
        bits(x, SHORTS, -1, 65536, 0);
        bits(x, INTS, MAX, 2147483648L, MIN);
        bits(x, INTS, MIN, -2147483649L, MAX);
        bits(x, INTS, -1, 4294967296L, 0);
        bits(x, BOOLEANS, 0, -1, 1);
        bits(x, BOOLEANS, 1, 2, 1);
        bits(x, BOOLEANS, 1, Long.MIN_VALUE, 1);
        bits(x, BOOLEANS, 0, 4294967296L, 1);
        for (long v : new long[] {Long.MAX_VALUE, Long.MIN_VALUE + 1, Long.MIN_VALUE, 0}) {
            e.in("item of longs: " + v, x.item(LONGS, 0, v), 1);
            e.in("read of " + v, x.read(LONGS, 0), v);
        }
        for (int sort = BYTES; sort <= INTS; sort++) {
            e.out("item of sort " + sort + ": the least", x.item(sort, 0, Long.MIN_VALUE), 1);
            e.out("read of the least", x.read(sort, 0), 0);
            e.out("item of sort " + sort + ": the greatest", x.item(sort, 0, Long.MAX_VALUE), 1);
            e.out("read of the greatest", x.read(sort, 0), -1);
        }
    }

    private void read() {
        e.edge(36, "Item i of a TAPE. NO: no such TAPE, nothing there, no such place.");
        LittleLeft x = Whole.kitchen();
        e.in("read(3, 0)", x.read(3, 0), 0);
        e.in("read(3, 2)", x.read(3, 2), -9);
        e.in("read(5, 0)", x.read(5, 0), 1);
        for (int tape : new int[] {-1, 6, MIN, MAX}) {
            e.refused("read(" + tape + ", 0)", y -> y.read(tape, 0), NO);
        }
        for (int place : new int[] {-1, 3, 60, MIN, MAX}) {
            e.refused("read(3, " + place + ")", y -> y.read(3, place), NO);
            e.refused("read(2, " + place + ") of nothing", y -> y.read(2, place), NO);
        }
        e.refused("read(2, 0) of nothing", y -> y.read(2, 0), NO);
        x.tape(2, INTS, 60);
        e.in("read(2, 59)", x.read(2, 59), 0);
        e.out("read(2, 60)", x.read(2, 60), NO);
        x.tape(2, INTS, 0);
        e.out("read(2, 0) of an empty row", x.read(2, 0), NO);
    }

    /** Two rows of ints on TAPES 0 and 5: 1 .. 5, and 11 .. 13; on TAPE 1 a row of shorts. */
    private static LittleLeft rows() {
        return Whole.with(x -> {
            x.tape(0, INTS, 5);
            for (int i = 0; i < 5; i++) {
                x.item(0, i, i + 1);
            }
            x.tape(5, INTS, 3);
            for (int i = 0; i < 3; i++) {
                x.item(5, i, i + 11);
            }
            x.tape(1, SHORTS, 5);
            x.tape(3, -1, 0);
        });
    }

    private void shiftWhich() {
        e.edge(37, "NONE: tapes; NOTHING; CAST: of unlike sorts; PLACE: n, i or j is below 0, or beyond either's end.");
        Supplier<LittleLeft> rows = EdgesTapesTest::rows;
        e.in("shift(0, 0, 5, 0, 3)", rows.get().shift(0, 0, 5, 0, 3), 3);
        e.in("shift(5, 0, 0, 0, 3)", rows.get().shift(5, 0, 0, 0, 3), 3);
        for (int tape : new int[] {-1, 6, MIN, MAX}) {
            e.refused("shift(" + tape + ", 0, 0, 0, 1)", rows, y -> y.shift(tape, 0, 0, 0, 1), -1);
            e.refused("shift(0, 0, " + tape + ", 0, 1)", rows, y -> y.shift(0, 0, tape, 0, 1), -1);
            e.refused("shift(" + tape + ", 0, 3, 0, 1)", rows, y -> y.shift(tape, 0, 3, 0, 1), -1);
            e.refused("shift(3, 0, " + tape + ", 0, 1)", rows, y -> y.shift(3, 0, tape, 0, 1), -1);
        }
        e.refused("from nothing", rows, y -> y.shift(3, 0, 0, 0, 1), -11);
        e.refused("to nothing", rows, y -> y.shift(0, 0, 3, 0, 1), -11);
        e.refused("from nothing to nothing", rows, y -> y.shift(3, 0, 4, 0, 0), -11);
        e.refused("nothing to itself", rows, y -> y.shift(3, 0, 3, 0, 0), -11);
        e.refused("from nothing, no place", rows, y -> y.shift(3, -1, 0, 9, -1), -11);
        e.refused("to nothing, no place", rows, y -> y.shift(0, 9, 3, -1, 99), -11);
        e.refused("unlike sorts", rows, y -> y.shift(0, 0, 1, 0, 1), -12);
        e.refused("unlike sorts, 0 items", rows, y -> y.shift(1, 0, 0, 0, 0), -12);
        e.refused("unlike sorts, no place", rows, y -> y.shift(0, -1, 1, 9, -1), -12);
        for (int sort = BYTES; sort <= BOOLEANS; sort++) {
            for (int other = BYTES; other <= BOOLEANS; other++) {
                LittleLeft x = new LittleLeft();
                x.tape(0, sort, 1);
                x.tape(1, other, 1);
                x.item(0, 0, 1);
                String call = "sort " + sort + " to sort " + other;
                if (sort == other) {
                    e.in(call, x.shift(0, 0, 1, 0, 1), 1);
                    e.in("read behind " + call, x.read(1, 0), 1);
                } else {
                    e.out(call, x.shift(0, 0, 1, 0, 1), -12);
                    e.out("read behind " + call, x.read(1, 0), 0);
                }
            }
        }
    }

    private void shiftPlaces() {
        e.edge(37, "PLACE: n, i or j is below 0, or beyond either's end");
        int[][] in = {{0, 0, 3}, {2, 0, 3}, {4, 2, 1}, {0, 2, 1}, {4, 0, 1}, {5, 3, 0}, {5, 0, 0}, {0, 3, 0}, {0, 0, 0}};
        for (int[] one : in) {
            LittleLeft x = rows();
            e.in("shift(0, " + one[0] + ", 5, " + one[1] + ", " + one[2] + ")", x.shift(0, one[0], 5, one[1], one[2]), one[2]);
            for (int k = 0; k < 3; k++) {
                boolean come = k >= one[1] && k < one[1] + one[2];
                e.in("read(5, " + k + ")", x.read(5, k), come ? one[0] + k - one[1] + 1 : k + 11);
            }
        }
        int[][] out = {{0, 0, -1}, {-1, 0, 1}, {0, -1, 1}, {-1, 0, 0}, {0, -1, 0}, {0, 0, 4}, {3, 0, 3}, {0, 1, 3}, {4, 0, 2},
            {5, 0, 1}, {0, 3, 1}, {6, 0, 0}, {0, 4, 0}, {1, 1, -1}, {5, 3, 1}, {0, 0, MAX}, {0, 0, MIN}, {MAX, 0, 1},
            {0, MAX, 1}, {MIN, 0, 1}, {0, MIN, 1}, {MAX, MAX, MAX}, {1, 1, MAX}, {MIN, MIN, MIN}, {-1, -1, 1}, {MAX, 0, 0},
            {0, MIN, 0}, {5, 3, -1}, {MIN, 0, MIN}, {MAX, 0, MIN}};
        for (int[] one : out) {
            e.refused("shift(0, " + one[0] + ", 5, " + one[1] + ", " + one[2] + ")", EdgesTapesTest::rows,
                y -> y.shift(0, one[0], 5, one[1], one[2]), -13);
        }
        e.refused("within one: beyond its end", EdgesTapesTest::rows, y -> y.shift(0, 0, 0, 1, 5), -13);
        e.refused("within one: i beyond its end", EdgesTapesTest::rows, y -> y.shift(0, 1, 0, 0, 5), -13);
    }

    private void shiftNone() {
        e.edge(37, "hold nothing (at first), or a row");
        LittleLeft x = new LittleLeft();
        x.tape(0, INTS, 0);
        x.tape(1, INTS, 0);
        e.in("0 items of an empty row", x.shift(0, 0, 1, 0, 0), 0);
        e.in("0 items within it", x.shift(0, 0, 0, 0, 0), 0);
        e.out("one item of an empty row", x.shift(0, 0, 1, 0, 1), -13);
        e.out("0 items beyond", x.shift(0, 1, 1, 0, 0), -13);
        e.out("0 items of nothing", x.shift(2, 0, 2, 0, 0), -11);
        x.tape(2, LONGS, 60);
        x.tape(3, LONGS, 60);
        for (int i = 0; i < 60; i++) {
            x.item(2, i, i + 1);
        }
        e.in("all 60", x.shift(2, 0, 3, 0, 60), 60);
        e.in("read(3, 0)", x.read(3, 0), 1);
        e.in("read(3, 59)", x.read(3, 59), 60);
        e.out("61", x.shift(2, 0, 3, 0, 61), -13);
    }

    private void shiftItems() {
        e.edge(37, "n items of a TAPE from i on come to another one (or the same) from j on, as they all were before: n.");
        int[][] want = {{1, 1, 2, 3, 4}, {2, 3, 4, 5, 5}, {1, 2, 3, 4, 5}, {1, 2, 3, 1, 2}, {4, 5, 3, 4, 5}};
        int[][] calls = {{0, 1, 4}, {1, 0, 4}, {0, 0, 5}, {0, 3, 2}, {3, 0, 2}};
        for (int sort = BYTES; sort <= LONGS; sort++) {
            for (int c = 0; c < calls.length; c++) {
                LittleLeft x = new LittleLeft();
                x.tape(2, sort, 5);
                for (int k = 0; k < 5; k++) {
                    x.item(2, k, k + 1);
                }
                int i = calls[c][0];
                int j = calls[c][1];
                int n = calls[c][2];
                e.in("shift(2, " + i + ", 2, " + j + ", " + n + ")", x.shift(2, i, 2, j, n), n);
                for (int k = 0; k < 5; k++) {
                    e.in("read(2, " + k + ") of sort " + sort, x.read(2, k), want[c][k]);
                }
            }
        }
        LittleLeft x = rows();
        x.shift(0, 1, 5, 1, 2);
        int[] others = {11, 2, 3};
        for (int k = 0; k < 3; k++) {
            e.in("read(5, " + k + ")", x.read(5, k), others[k]);
        }
        for (int k = 0; k < 5; k++) {
            e.out("read(0, " + k + ") of what they came from", x.read(0, k), k + 1);
        }
    }
}

/** Promises 27 and 34 to 37: judge, tape, item, read, shift. */
public final class TapesTest {
    private static final Check CHECK = new Check("TapesTest");
    private static final long NO = Long.MIN_VALUE;

    public static void main(String[] args) {
        judge();
        tape();
        itemsOfSorts();
        item();
        read();
        shift();
        shiftWithin();
        CHECK.end();
    }

    private static void due(String call, long got, long want) {
        CHECK.due(call, got, want);
    }

    private static void judge() {
        LittleLeft x = Check.kitchen("", 0, Check.a(5, 0, 60), Check.a(5, 0, 60), Check.a(5, 0, 60));
        for (int f = 0; f < 3; f++) {
            for (int n = 0; n <= f; n++) {
                x.fill(0);
                x.takes(f);
            }
        }
        due("judge of nothing", x.judge(0, 0), 100);
        due("judge(-1, 0)", x.judge(-1, 0), -1);
        due("judge(6, 0)", x.judge(6, 0), -1);
        x.tape(0, 2, 5);
        due("all 0", x.judge(0, 0), 0);
        x.item(0, 1, 1);
        due("0 first", x.judge(0, 0), 0);
        due("1, 0", x.judge(0, 1), 1);
        x.item(0, 2, 2);
        due("1, 2, 0", x.judge(0, 1), 2);
        x.item(0, 3, 3);
        due("1, 2, 3", x.judge(0, 1), -5);
        due("2 first", x.judge(0, 2), 0);
        due("the end", x.judge(0, 5), 100);
        due("beyond", x.judge(0, 6), 100);
        due("far beyond", x.judge(0, Integer.MAX_VALUE), 100);
        due("below 0", x.judge(0, -1), 100);
        due("far below 0", x.judge(0, Integer.MIN_VALUE), 100);
        x.item(0, 4, 1);
        due("1 and the end", x.judge(0, 4), 101);
        x.item(0, 3, 1);
        x.item(0, 4, 2);
        due("1, 2 and the end", x.judge(0, 3), 102);
        x.item(0, 4, 7);
        due("otherwise ahead of the end", x.judge(0, 3), 1);
        for (int sort : new int[] {0, 1, 3, 4}) {
            x.tape(1, sort, 3);
            due("no ints: " + sort, x.judge(1, 0), -12);
            due("no ints, below 0: " + sort, x.judge(1, -1), -12);
        }
        x.tape(1, 2, 0);
        due("an empty row", x.judge(1, 0), 100);
        LittleLeft nobody = new LittleLeft();
        nobody.tape(0, 2, 3);
        due("nobody", nobody.judge(0, 0), -5);
        nobody.tape(0, 3, 3);
        due("nobody, no ints", nobody.judge(0, 0), -12);
        due("nobody, no tape", nobody.judge(6, 0), -1);
    }

    private static void tape() {
        LittleLeft x = new LittleLeft();
        due("tape(6, 0, 0)", x.tape(6, 0, 0), -1);
        due("tape(-1, 9, 99)", x.tape(-1, 9, 99), -1);
        due("tape(0, 5, 0)", x.tape(0, 5, 0), -2);
        due("tape(0, -2, 0)", x.tape(0, -2, 0), -2);
        due("tape(0, 5, -1): the sort first", x.tape(0, 5, -1), -2);
        due("tape(0, 0, 61)", x.tape(0, 0, 61), -2);
        due("tape(0, 0, -1)", x.tape(0, 0, -1), -14);
        due("tape(0, 0, MIN)", x.tape(0, 0, Integer.MIN_VALUE), -14);
        due("nothing is there", x.read(0, 0), NO);
        due("tape(0, 3, 60)", x.tape(0, 3, 60), 1);
        due("all 0", x.read(0, 59), 0);
        due("item(0, 59, 5)", x.item(0, 59, 5), 1);
        due("tape(0, 5, 0)", x.tape(0, 5, 0), -2);
        due("tape(0, 0, -1)", x.tape(0, 0, -1), -14);
        due("it stays", x.read(0, 59), 5);
        due("anew", x.tape(0, 3, 60), 1);
        due("all 0 again", x.read(0, 59), 0);
        due("tape(0, -1, 61)", x.tape(0, -1, 61), 1);
        due("nothing", x.item(0, 0, 1), -11);
        due("tape(5, -1, -1)", x.tape(5, -1, -1), 1);
        due("tape(5, 4, 0)", x.tape(5, 4, 0), 1);
        due("an empty row is no nothing", x.item(5, 0, 1), -13);
    }

    private static void itemsOfSorts() {
        long[] values = {0, 1, -1, 127, 128, 255, 256, 32767, 32768, 65536, 2147483647L, 2147483648L,
            4294967296L, -129, Long.MAX_VALUE, Long.MIN_VALUE + 1};
        LittleLeft x = new LittleLeft();
        for (int sort = 0; sort < 5; sort++) {
            x.tape(sort, sort, 1);
        }
        for (long v : values) {
            long[] want = {(byte) v, (short) v, (int) v, v, v != 0 ? 1 : 0};
            for (int sort = 0; sort < 5; sort++) {
                due("item(" + sort + ", 0, " + v + ")", x.item(sort, 0, v), 1);
                due("read of " + v + " in sort " + sort, x.read(sort, 0), want[sort]);
            }
        }
    }

    private static void item() {
        LittleLeft x = new LittleLeft();
        due("item(-1, 0, 1)", x.item(-1, 0, 1), -1);
        due("item(6, 9, 1)", x.item(6, 9, 1), -1);
        due("item(0, -1, 1): nothing first", x.item(0, -1, 1), -11);
        x.tape(0, 1, 3);
        due("item(0, -1, 1)", x.item(0, -1, 1), -13);
        due("item(0, 3, 1)", x.item(0, 3, 1), -13);
        due("item(0, 2, 7)", x.item(0, 2, 7), 1);
        due("read(0, 2)", x.read(0, 2), 7);
        due("read(0, 1)", x.read(0, 1), 0);
    }

    private static void read() {
        LittleLeft x = new LittleLeft();
        due("read(-1, 0)", x.read(-1, 0), NO);
        due("read(6, 0)", x.read(6, 0), NO);
        due("read(0, 0)", x.read(0, 0), NO);
        x.tape(0, 2, 2);
        due("read(0, 1)", x.read(0, 1), 0);
        due("read(0, 2)", x.read(0, 2), NO);
        due("read(0, -1)", x.read(0, -1), NO);
    }

    private static void shift() {
        LittleLeft x = new LittleLeft();
        x.tape(0, 2, 5);
        x.tape(1, 2, 3);
        x.tape(2, 3, 3);
        for (int i = 0; i < 5; i++) {
            x.item(0, i, 10 + i);
        }
        due("shift(-1, ..)", x.shift(-1, 0, 1, 0, 1), -1);
        due("shift(0, .., 6, ..)", x.shift(0, 0, 6, 0, 1), -1);
        due("shift(3, .., 6, ..): the tapes first", x.shift(3, 0, 6, 0, 1), -1);
        due("from nothing", x.shift(3, 0, 1, 0, 1), -11);
        due("to nothing", x.shift(0, 0, 3, -1, -1), -11);
        due("unlike sorts", x.shift(0, 0, 2, 0, 1), -12);
        due("unlike sorts, no place", x.shift(0, -1, 2, 0, 1), -12);
        due("n below 0", x.shift(0, 0, 1, 0, -1), -13);
        due("i below 0", x.shift(0, -1, 1, 0, 1), -13);
        due("j below 0", x.shift(0, 0, 1, -1, 1), -13);
        due("beyond the one's end", x.shift(0, 4, 1, 0, 2), -13);
        due("beyond the other's end", x.shift(0, 0, 1, 2, 2), -13);
        due("wrapping n", x.shift(0, 1, 1, 1, Integer.MAX_VALUE), -13);
        due("wrapping i", x.shift(0, Integer.MAX_VALUE, 1, 0, 1), -13);
        due("wrapping j", x.shift(0, 0, 1, Integer.MAX_VALUE, 1), -13);
        due("n of 0 beyond an end", x.shift(0, 6, 1, 0, 0), -13);
        due("n of 0 beyond the other end", x.shift(0, 0, 1, 4, 0), -13);
        due("n of 0 at both ends", x.shift(0, 5, 1, 3, 0), 0);
        row(x, 1, 0, 0, 0);
        due("shift(0, 3, 1, 1, 2)", x.shift(0, 3, 1, 1, 2), 2);
        row(x, 1, 0, 13, 14);
        due("shift(0, 0, 1, 0, 3)", x.shift(0, 0, 1, 0, 3), 3);
        row(x, 1, 10, 11, 12);
        row(x, 0, 10, 11, 12, 13, 14);
    }

    private static void row(LittleLeft x, int tape, long... items) {
        for (int i = 0; i < items.length; i++) {
            due("read(" + tape + ", " + i + ")", x.read(tape, i), items[i]);
        }
        due("the end of " + tape, x.read(tape, items.length), NO);
    }

    private static void shiftWithin() {
        for (int sort = 0; sort < 4; sort++) {
            LittleLeft x = new LittleLeft();
            x.tape(4, sort, 5);
            for (int i = 0; i < 5; i++) {
                x.item(4, i, i + 1);
            }
            due("up", x.shift(4, 0, 4, 1, 4), 4);
            row(x, 4, 1, 1, 2, 3, 4);
            due("down", x.shift(4, 1, 4, 0, 4), 4);
            row(x, 4, 1, 2, 3, 4, 4);
            due("onto itself", x.shift(4, 0, 4, 0, 5), 5);
            row(x, 4, 1, 2, 3, 4, 4);
        }
    }
}

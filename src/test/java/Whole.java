import java.util.ArrayList;
import java.util.List;
import java.util.function.Consumer;

/** A kitchen in which all is otherwise than at first, and all that can be seen of one: some 400 calls in all. */
final class Whole {
    private static final int TAPES = 6;

    private Whole() {
    }

    /** Of each promise something: five takers, a rule, a text begun, what is seen, a book, tapes, an image, a trace. */
    static LittleLeft kitchen() {
        LittleLeft x = noTrace();
        x.act(1, 2, 5);
        return x;
    }

    /** The same ahead of any act. */
    static LittleLeft noTrace() {
        LittleLeft x = Check.kitchen("want 5 d<3;pay 3 p<9;least 6;full 15", 77,
            Check.a(6, 3, 20), Check.a(3, 2, 30), Check.a(4, 9, 11), Check.a(5, 1, 7));
        x.row(0, 1, 4);
        x.day();
        x.takes(1);
        x.see(40, 20);
        x.book(33);
        x.image();
        x.portion(2, 12);
        x.row(0, 3, 8);
        x.takes(3);
        x.taker(1, 4, 44);
        x.see(100, 66);
        x.book(x.on(2, 0));
        tapes(x);
        Check.feed(x, "full 1");
        return x;
    }

    private static void tapes(LittleLeft x) {
        x.tape(0, 2, 3);
        x.item(0, 0, x.of(0, 4));
        x.item(0, 1, x.of(1, 4));
        x.tape(1, 0, 2);
        x.item(1, 1, 77);
        x.tape(3, 2, 3);
        x.item(3, 2, -9);
        x.tape(5, 4, 2);
        x.item(5, 0, 1);
    }

    static LittleLeft with(Consumer<LittleLeft> more) {
        LittleLeft x = kitchen();
        more.accept(x);
        return x;
    }

    /** What all calls tell of one, that which its text and its image are of last; it is of no use afterwards. */
    static List<Long> seen(LittleLeft x) {
        List<Long> seen = new ArrayList<>();
        how(x, seen);
        notes(x, seen);
        int ran = x.count(5);
        for (int i = -1; i <= ran; i++) {
            seen.add((long) x.trace(i));
        }
        tapes(x, seen);
        rows(x, seen);
        seen.add((long) x.feed('2'));
        seen.add((long) x.rule());
        seen.add((long) x.told(3));
        seen.add((long) x.undo());
        how(x, seen);
        notes(x, seen);
        rows(x, seen);
        for (int tape = 0; tape < TAPES; tape++) {
            seen.add((long) x.item(tape, 0, -200000));
            seen.add(x.read(tape, 0));
        }
        return seen;
    }

    private static void how(LittleLeft x, List<Long> seen) {
        for (int what = 0; what <= 4; what++) {
            seen.add((long) x.told(what));
        }
        for (int what = 0; what <= 5; what++) {
            seen.add((long) x.count(what));
        }
        int takers = x.count(0);
        for (int p = 0; p < takers; p++) {
            for (int what = 0; what <= 7; what++) {
                seen.add((long) x.of(p, what));
            }
        }
    }

    private static void notes(LittleLeft x, List<Long> seen) {
        seen.add((long) x.on(3, 0));
        seen.add((long) x.on(3, 2));
        seen.add((long) x.who());
        seen.add((long) x.looked());
    }

    private static void rows(LittleLeft x, List<Long> seen) {
        int takers = x.count(0);
        for (int p = 0; p < takers; p++) {
            for (int part = 0; part < 4; part++) {
                seen.add((long) x.row(p, part, 0));
            }
        }
    }

    private static void tapes(LittleLeft x, List<Long> seen) {
        for (int tape = 0; tape < TAPES; tape++) {
            seen.add((long) x.judge(tape, 0));
            for (int i = 0; i <= 3; i++) {
                seen.add(x.read(tape, i));
            }
        }
    }
}

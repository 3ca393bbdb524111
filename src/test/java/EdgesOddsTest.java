import java.io.IOException;
import java.util.function.Supplier;

/** Edges of promises 23 to 26: odds, mean, book, looked. */
public final class EdgesOddsTest {
    private static final long NO = Long.MIN_VALUE;
    private static final int MIN = Integer.MIN_VALUE;
    private static final int MAX = Integer.MAX_VALUE;
    private final Edges e = new Edges("EdgesOddsTest");

    private EdgesOddsTest() throws IOException {
    }

    public static void main(String[] args) throws IOException {
        EdgesOddsTest test = new EdgesOddsTest();
        test.oddsDays();
        test.oddsOfSix();
        test.oddsFirst();
        test.odds();
        test.meanDays();
        test.mean();
        test.book();
        test.bookOfTwelve();
        test.looked();
        test.e.end(23, 24, 25, 26);
    }

    private static LittleLeft six() {
        return Whole.with(x -> x.taker(0, 0, 60));
    }

    private static LittleLeft all(int kind, int portion, int grains, int takers) {
        LittleLeft x = Check.kitchen("", grains);
        for (int p = 0; p < takers; p++) {
            x.taker(kind, 0, portion);
        }
        return x;
    }

    private void in(LittleLeft x, int taker, int n, int above, int below) {
        e.in("odds(" + taker + ", " + n + ", 0)", x.odds(taker, n, 0), above);
        e.in("odds(" + taker + ", " + n + ", 1)", x.odds(taker, n, 1), below);
    }

    private void oddsDays() {
        e.edge(23, "ODDS of one by n DAYS (0 .. 30)");
        LittleLeft x = all(5, 1, 34, 1);
        in(x, 0, 0, 0, 1);
        in(x, 0, 29, 0, 1);
        in(x, 0, 30, 1, 1);
        x.fill(35);
        in(x, 0, 30, 0, 1);
        x.fill(0);
        in(x, 0, 0, 0, 1);
        in(x, 0, 1, 1, 1);
        for (int n : new int[] {-1, 31, MIN, MAX}) {
            e.refused("odds(0, " + n + ", 0)", y -> y.odds(0, n, 0), NO);
            e.refused("odds(4, " + n + ", 1)", y -> y.odds(4, n, 1), NO);
        }
    }

    private void oddsOfSix() {
        e.edge(23, "how likely that one FETCHES in these: a fraction in lowest terms");
        // Who comes sixth leaves 4: the last one, or the one ahead of it, if the last comes first.
        LittleLeft x = all(5, 1, 10, 6);
        in(x, 5, 1, 5, 6);
        in(x, 4, 1, 1, 6);
        for (int p = 0; p < 4; p++) {
            in(x, p, 1, 0, 1);
        }
        // Who comes fifth FETCHES, so that there are 199 for the sixth.
        x.fill(9);
        in(x, 5, 1, 0, 1);
        in(x, 4, 1, 2, 3);
        in(x, 3, 1, 1, 3);
        x.fill(7);
        in(x, 2, 1, 1, 3);
        in(x, 1, 1, 2, 3);
        x.fill(5);
        in(x, 0, 1, 1, 6);
        in(x, 5, 1, 1, 6);
        x.fill(990);
        in(x, 0, 30, 0, 1);
        LittleLeft each = Check.kitchen("full 0", 0, Check.a(5, 0, 1), Check.a(3, 0, 1), Check.a(3, 0, 1));
        in(each, 0, 1, 1, 1);
        in(each, 2, 30, 1, 1);
        LittleLeft none = new LittleLeft();
        e.out("odds(0, 0, 0) of nobody", none.odds(0, 0, 0), NO);
        e.out("odds(0, 0, 1) of nobody", none.odds(0, 0, 1), NO);
    }

    private void oddsFirst() {
        e.edge(23, "if on all of these one TAKER, the same each DAY, each alike likely, has its TAKING first, and all others by"
            + " numbers behind it");
        // The second one FETCHES on DAY 0, if it comes behind the first; it has one TAKING on each DAY.
        LittleLeft x = Check.kitchen("", 7, Check.a(5, 0, 1), Check.a(5, 0, 2));
        in(x, 1, 1, 1, 2);
        in(x, 0, 1, 1, 2);
        x.fill(8);
        in(x, 1, 1, 0, 1);
        in(x, 0, 1, 0, 1);
        // 8, 7, 5 and 8, 6, 5: both behind DAY 0. On DAY 1: the first 4, or the second 3.
        in(x, 0, 2, 1, 2);
        in(x, 1, 2, 1, 2);
        e.unchanged("odds(0, 30, 1)", EdgesOddsTest::six, y -> y.odds(0, 30, 1) > 0 ? 1 : 0, 1);
        e.out("told(0)", x.told(0), 8);
    }

    private void odds() {
        e.edge(23, "ODDS; part 0 above, 1 below the line. NO.");
        LittleLeft x = all(5, 1, 10, 6);
        e.in("odds(5, 1, 0)", x.odds(5, 1, 0), 5);
        e.in("odds(5, 1, 1)", x.odds(5, 1, 1), 6);
        for (int part : new int[] {-1, 2, MIN, MAX}) {
            e.refused("odds(0, 1, " + part + ")", y -> y.odds(0, 1, part), NO);
        }
        for (int taker : new int[] {-1, 6, MIN, MAX}) {
            e.refused("odds(" + taker + ", 1, 0)", EdgesOddsTest::six, y -> y.odds(taker, 1, 0), NO);
        }
        e.refused("odds(5, 1, 0) of five", y -> y.odds(5, 1, 0), NO);
    }

    private void meanIn(LittleLeft x, int n, int above, int below) {
        e.in("mean(" + n + ", 0)", x.mean(n, 0), above);
        e.in("mean(" + n + ", 1)", x.mean(n, 1), below);
    }

    private void meanDays() {
        e.edge(24, "MEAN of n DAYS (1 .. 60)");
        LittleLeft x = all(5, 1, 990, 1);
        meanIn(x, 1, 989, 1);
        meanIn(x, 2, 1977, 2);
        // 989 .. 930: 60 times 959 and a half.
        meanIn(x, 60, 1919, 2);
        meanIn(x, 59, 960, 1);
        for (int n : new int[] {0, -1, 61, MIN, MAX}) {
            e.refused("mean(" + n + ", 0)", y -> y.mean(n, 0), NO);
            e.refused("mean(" + n + ", 1)", y -> y.mean(n, 1), NO);
        }
    }

    private void mean() {
        e.edge(24, "GRAINS behind DAYS 1 .. n, together, by n: a fraction in lowest terms");
        LittleLeft nobody = new LittleLeft();
        meanIn(nobody, 60, 100, 1);
        nobody.fill(990);
        meanIn(nobody, 60, 990, 1);
        nobody.fill(0);
        meanIn(nobody, 60, 0, 1);
        meanIn(nobody, 1, 0, 1);
        LittleLeft one = Check.kitchen("least 0", 60, Check.a(0, 0, 1));
        meanIn(one, 60, 59, 2);
        one.fill(1);
        meanIn(one, 60, 0, 1);
        one.fill(2);
        meanIn(one, 60, 1, 60);
        one.fill(3);
        meanIn(one, 60, 1, 20);
        e.out("told(1)", one.told(1), 0);
        e.out("told(0)", one.told(0), 3);
        e.unchanged("mean(60, 0)", EdgesOddsTest::six, y -> y.mean(60, 0) > 0 ? 1 : 0, 1);

        e.edge(24, "MEAN; part likewise. NO: n, part.");
        e.in("mean(60, 0)", one.mean(60, 0), 1);
        e.in("mean(60, 1)", one.mean(60, 1), 20);
        for (int part : new int[] {-1, 2, MIN, MAX}) {
            e.refused("mean(1, " + part + ")", y -> y.mean(1, part), NO);
        }
        e.out("mean(0, 0) of nobody", nobody.mean(0, 0), NO);
    }

    private void book() {
        e.edge(25, "A row (0 .. 999) comes to the BOOK: how many there are (-1: it is empty then, 0).");
        LittleLeft x = new LittleLeft();
        e.in("book(-1) of none", x.book(-1), 0);
        e.in("book(0)", x.book(0), 1);
        e.in("book(999)", x.book(999), 2);
        e.in("count(3)", x.count(3), 2);
        e.in("book(-1)", x.book(-1), 0);
        e.in("count(3)", x.count(3), 0);
        e.in("book(999)", x.book(999), 1);
        for (int n : new int[] {-2, 1000, MIN, MAX}) {
            e.refused("book(" + n + ")", y -> y.book(n), -2);
        }
    }

    private static LittleLeft twelve() {
        return Whole.with(x -> {
            for (int n = 3; n <= 12; n++) {
                x.book(x.on(n, 0));
            }
        });
    }

    private void bookOfTwelve() {
        e.edge(25, "BAD; FULL: 12.");
        LittleLeft x = new LittleLeft();
        for (int n = 1; n <= 12; n++) {
            e.in("book(" + n + ")", x.book(n), n);
            e.in("count(3)", x.count(3), n);
        }
        Supplier<LittleLeft> twelve = EdgesOddsTest::twelve;
        e.refused("book(0) of twelve", twelve, y -> y.book(0), -4);
        e.refused("book(999) of twelve", twelve, y -> y.book(999), -4);
        e.refused("book(1000) of twelve", twelve, y -> y.book(1000), -2);
        e.refused("book(-2) of twelve", twelve, y -> y.book(-2), -2);
        e.in("book(-1) of twelve", x.book(-1), 0);
        e.in("book(0) behind that", x.book(0), 1);
    }

    private void looked() {
        e.edge(26, "GRAINS behind DAYS 1, 2, 3 .. (12 at most): LOOKED at: the first that is otherwise (-5: none).");
        LittleLeft x = all(5, 1, 990, 1);
        e.in("of no rows", x.looked(), -5);
        x.book(988);
        e.out("the first otherwise", x.looked(), 0);
        x.book(988);
        e.out("the first otherwise, the second not", x.looked(), 0);
        x.book(-1);
        for (int n = 1; n <= 11; n++) {
            x.book(990 - n);
            e.in("of " + n + " rows", x.looked(), -5);
        }
        x.image();
        x.book(979);
        e.out("the twelfth otherwise", x.looked(), 11);
        x.undo();
        x.book(978);
        e.in("of twelve rows", x.looked(), -5);
        x.undo();
        x.book(977);
        e.out("the twelfth otherwise", x.looked(), 11);
        LittleLeft nobody = new LittleLeft();
        nobody.fill(990);
        nobody.book(999);
        e.out("999 are never there", nobody.looked(), 0);
        nobody.book(-1);
        nobody.book(990);
        e.in("990 may be", nobody.looked(), -5);
        nobody.fill(0);
        nobody.book(-1);
        nobody.book(0);
        e.in("0 may be", nobody.looked(), -5);
        e.unchanged("looked()", EdgesOddsTest::twelve, y -> y.looked() >= -5 ? 1 : 0, 1);
    }
}

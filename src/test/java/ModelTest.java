import java.util.Random;

/** Promises 1 to 37: runs of calls by a fixed seed, each answer compared with that of Model. */
public final class ModelTest {
    private static final Check CHECK = new Check("ModelTest");
    private static final int RUNS = 1500;
    private static final int CALLS = 512;
    private final Random random;
    private final LittleLeft x = new LittleLeft();
    private final Model y = new Model();
    private final StringBuilder told = new StringBuilder();

    private ModelTest(int seed) {
        random = new Random(seed);
    }

    public static void main(String[] args) {
        for (int seed = 0; seed < RUNS; seed++) {
            new ModelTest(seed).run();
        }
        CHECK.end();
    }

    private void run() {
        int calls = 0;
        while (calls < CALLS) {
            if (random.nextInt(25) == 0) {
                String text = text();
                calls += text.length() + 1;
                for (int i = 0; i < text.length(); i++) {
                    x.feed(text.charAt(i));
                    y.feed(text.charAt(i));
                }
                told.append(text).append(' ');
                due("rule of " + text, x.rule(), y.rule());
            }
            calls++;
            call(random.nextInt(41));
        }
    }

    private void due(String call, long got, long want) {
        if (got != want) {
            CHECK.due(call + " with the texts " + told, got, want);
        } else {
            CHECK.due(call, got, want);
        }
    }

    /** Mostly from .. to, at times a little or far beyond. */
    private int n(int from, int to) {
        int chance = random.nextInt(40);
        if (chance == 0) {
            return random.nextInt();
        }
        if (chance <= 2) {
            return from - 1 - random.nextInt(2);
        }
        if (chance <= 4) {
            return to + 1 + random.nextInt(2);
        }
        if (chance <= 6) {
            return chance == 5 ? from : to;
        }
        return from + random.nextInt(to - from + 1);
    }

    private int t() {
        return n(0, Math.max(0, x.count(0) - 1));
    }

    private int on() {
        int kind = random.nextInt(5);
        return kind < 3 ? n(0, 2) : kind * 10 - 20 + t();
    }

    private void call(int which) {
        int a;
        int b;
        int c;
        switch (which) {
            case 0: case 40: a = n(0, 6); b = n(0, 9); c = n(1, 60); due("taker(" + a + ", " + b + ", " + c + ")", x.taker(a, b, c), y.taker(a, b, c)); break;
            case 1: a = t(); b = n(0, 7); due("of(" + a + ", " + b + ")", x.of(a, b), y.of(a, b)); break;
            case 2: a = t(); b = n(1, 60); due("portion(" + a + ", " + b + ")", x.portion(a, b), y.portion(a, b)); break;
            case 3: a = random.nextBoolean() ? n(0, 60) : n(0, 990); due("fill(" + a + ")", x.fill(a), y.fill(a)); break;
            case 4: case 38: a = t(); b = n(0, 3); c = n(0, 9); due("row(" + a + ", " + b + ", " + c + ")", x.row(a, b, c), y.row(a, b, c)); break;
            case 5: a = n(0, 127); due("feed(" + a + ")", x.feed(a), y.feed(a)); break;
            case 6: if (random.nextInt(5) == 0) { due("rule()", x.rule(), y.rule()); } break;
            case 7: a = n(0, 4); due("told(" + a + ")", x.told(a), y.told(a)); break;
            case 8: case 39: a = t(); due("takes(" + a + ")", x.takes(a), y.takes(a)); break;
            case 9: due("day()", x.day(), y.day()); break;
            case 10: a = n(0, 60); b = on(); due("on(" + a + ", " + b + ")", x.on(a, b), y.on(a, b)); break;
            case 11: a = t(); b = n(0, 2); due("would(" + a + ", " + b + ")", x.would(a, b), y.would(a, b)); break;
            case 12: a = n(0, 1); due("next(" + a + ")", x.next(a), y.next(a)); break;
            case 13: a = n(1, 10); b = n(0, 1); due("least(" + a + ", " + b + ")", x.least(a, b), y.least(a, b)); break;
            case 14: a = n(1, 10); b = n(0, 1); due("full(" + a + ", " + b + ")", x.full(a, b), y.full(a, b)); break;
            case 15: a = n(-1, 4); due("order(" + a + ")", x.order(a), y.order(a)); break;
            case 16: a = t(); b = n(0, 30); due("without(" + a + ", " + b + ")", x.without(a, b), y.without(a, b)); break;
            case 17: a = n(0, 99); b = n(0, 1); due("few(" + a + ", " + b + ")", x.few(a, b), y.few(a, b)); break;
            case 18: a = n(1, 60); due("pitied(" + a + ")", x.pitied(a), y.pitied(a)); break;
            case 19: see(); break;
            case 20: due("who()", x.who(), y.who()); break;
            case 21: a = t(); b = n(0, 30); c = n(0, 1); due("odds(" + a + ", " + b + ", " + c + ")", x.odds(a, b, c), y.odds(a, b, c)); break;
            case 22: a = n(1, 60); b = n(0, 1); due("mean(" + a + ", " + b + ")", x.mean(a, b), y.mean(a, b)); break;
            case 23: book(); break;
            case 24: due("looked()", x.looked(), y.looked()); break;
            case 25: judge(); break;
            case 26: if (random.nextInt(3) == 0) { due("image()", x.image(), y.image()); } break;
            case 27: if (random.nextInt(3) == 0) { due("undo()", x.undo(), y.undo()); } break;
            default: others(which); break;
        }
    }

    private void see() {
        int found = n(-1, 990);
        int left = n(0, 990);
        if (random.nextBoolean() && x.count(0) > 0 && found >= 0 && found <= 990) {
            int grains = x.told(0);
            x.fill(found);
            left = x.would(random.nextInt(x.count(0)), 1);
            x.fill(grains);
        }
        due("see(" + found + ", " + left + ")", x.see(found, left), y.see(found, left));
    }

    private void book() {
        int n = n(-1, 999);
        if (random.nextInt(6) > 0) {
            n = x.on(x.count(3) + 1, 0);
        }
        due("book(" + n + ")", x.book(n), y.book(n));
    }

    private void judge() {
        int tape = random.nextInt(6);
        int place = random.nextInt(3);
        if (random.nextInt(3) > 0) {
            int size = place + random.nextInt(8);
            due("tape(" + tape + ", 2, " + size + ")", x.tape(tape, 2, size), y.tape(tape, 2, size));
            for (int p = 0; p < 6; p++) {
                long v = random.nextInt(9) == 0 ? 1 : x.of(p, 4);
                due("item(" + tape + ", ..)", x.item(tape, place + p, v), y.item(tape, place + p, v));
            }
        }
        int i = n(place, place);
        due("judge(" + tape + ", " + i + ")", x.judge(tape, i), y.judge(tape, i));
    }

    private void others(int which) {
        int a = n(0, 5);
        int b = n(0, 8);
        int c = n(0, 5);
        int d = n(0, 8);
        int e = n(0, 8);
        long v = random.nextInt(4) == 0 ? random.nextLong() : random.nextInt(300) - 150;
        switch (which) {
            case 28: case 29: a = t(); c = n(0, 2); due("act(" + a + ", " + c + ", " + v + ")", x.act(a, c, (int) v), y.act(a, c, (int) v)); break;
            case 30: a = n(0, 12); due("trace(" + a + ")", x.trace(a), y.trace(a)); break;
            case 31: a = t(); b = n(0, 6); due("taken(" + a + ", " + b + ")", x.taken(a, b), y.taken(a, b)); break;
            case 32: due("count(" + a + ")", x.count(a), y.count(a)); break;
            case 33: c = n(-1, 4); d = n(0, 60); due("tape(" + a + ", " + c + ", " + d + ")", x.tape(a, c, d), y.tape(a, c, d)); break;
            case 34: case 35: due("item(" + a + ", " + b + ", " + v + ")", x.item(a, b, v), y.item(a, b, v)); break;
            case 36: due("read(" + a + ", " + b + ")", x.read(a, b), y.read(a, b)); break;
            default: due("shift(" + a + ", " + b + ", " + c + ", " + d + ", " + e + ")", x.shift(a, b, c, d, e), y.shift(a, b, c, d, e)); break;
        }
    }

    /** A rule, or one with a byte changed, left out or put in. */
    private String text() {
        StringBuilder s = new StringBuilder(clause());
        int more = random.nextInt(5) == 0 ? 10 : random.nextInt(5);
        for (int c = 0; c < more; c++) {
            String clause = clause();
            if (s.length() + 1 + clause.length() <= 100) {
                s.append(';').append(clause);
            }
        }
        if (random.nextInt(3) == 0) {
            int at = random.nextInt(s.length());
            char sign = random.nextInt(9) == 0 ? (char) random.nextInt(128) : "want leastfullpay0123;&|!()<=>pkvgdf".charAt(random.nextInt(36));
            switch (random.nextInt(3)) {
                case 0: s.setCharAt(at, sign); break;
                case 1: s.deleteCharAt(at); break;
                default: s.insert(at, sign); break;
            }
        }
        return s.toString();
    }

    private String clause() {
        int n = random.nextInt(random.nextBoolean() ? 100 : 12);
        switch (random.nextInt(6)) {
            case 0: return "least " + random.nextInt(30);
            case 1: return "full " + n;
            case 2: case 3: return "pay " + n + " " + e(random.nextInt(6) == 0 ? 5 : 2);
            default: return "want " + n + " " + e(random.nextInt(6) == 0 ? 5 : 2);
        }
    }

    private String e(int depth) {
        String e = f(depth);
        while (random.nextInt(3) == 0) {
            e += (random.nextBoolean() ? "|" : "&") + f(depth);
        }
        return e;
    }

    private String f(int depth) {
        int chance = depth == 0 ? 9 : random.nextInt(10);
        if (chance < 2) {
            return "!" + f(depth - 1);
        }
        if (chance < 4) {
            return "(" + e(depth - 1) + ")";
        }
        int letter = random.nextInt(6);
        int most = new int[] {6, 7, 10, 30, 7, 12}[letter];
        return "" + "pkvgdf".charAt(letter) + "<=>".charAt(random.nextInt(3)) + random.nextInt(most);
    }
}

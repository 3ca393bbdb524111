/** Promises 10 to 14: takings, days, on, would, next. */
public final class DaysTest {
    private static final Check CHECK = new Check("DaysTest");

    public static void main(String[] args) {
        takingsByKind();
        fetching();
        told();
        takes();
        day();
        lastDay();
        on();
        would();
        next();
        CHECK.end();
    }

    private static void due(String call, long got, long want) {
        CHECK.due(call, got, want);
    }

    /** Of one of a kind with PORTION 30 and no rule: what it takes of these, what is behind it, how often it fetches. */
    private static void taking(int kind, int grains, int takes, int left, int fetches) {
        LittleLeft x = Check.kitchen("", grains, Check.a(kind, 0, 30));
        String one = "kind " + kind + " of " + grains;
        due(one + " would take", x.would(0, 0), takes);
        due(one + " would leave", x.would(0, 1), left);
        due(one + " would fetch", x.would(0, 2), fetches);
        due(one + " has taken nothing", x.told(0), grains);
        due(one + " takes", x.takes(0), takes);
        due(one + " leaves", x.told(0), left);
        due(one + " has cups", x.of(0, 3), takes > 0 ? 1 : 0);
        due(one + " has fetched", x.of(0, 4), fetches);
        due(one + " has no coins", x.of(0, 5), 0);
    }

    private static void takingsByKind() {
        taking(0, 100, 30, 70, 0);
        taking(0, 35, 30, 5, 0);
        taking(0, 20, 15, 5, 0);
        taking(0, 5, 0, 5, 0);
        taking(0, 4, 0, 200, 1);
        taking(0, 0, 0, 200, 1);
        taking(1, 100, 30, 70, 0);
        taking(1, 60, 30, 30, 0);
        taking(1, 59, 29, 30, 0);
        taking(1, 9, 4, 5, 0);
        taking(1, 8, 4, 200, 1);
        taking(1, 1, 0, 200, 1);
        taking(2, 60, 30, 30, 0);
        taking(2, 59, 15, 44, 0);
        taking(2, 10, 5, 5, 0);
        taking(2, 3, 0, 200, 1);
        taking(3, 35, 30, 5, 0);
        taking(3, 34, 30, 170, 1);
        taking(3, 0, 30, 170, 1);
        taking(4, 200, 60, 140, 0);
        taking(4, 119, 59, 60, 0);
        taking(4, 3, 1, 200, 1);
        taking(5, 100, 30, 70, 0);
        taking(5, 35, 30, 5, 0);
        taking(5, 34, 30, 200, 1);
        taking(5, 20, 20, 200, 1);
        taking(5, 0, 0, 200, 1);
        taking(6, 100, 30, 70, 0);
        taking(6, 20, 15, 5, 0);
        taking(6, 4, 0, 200, 1);
    }

    private static void fetching() {
        LittleLeft twice = Check.kitchen("pay 3 g=0;pay 5 f=0;pay 7 f=1;full 0", 20, Check.a(3, 0, 30));
        due("twice: would fetch", twice.would(0, 2), 2);
        due("twice: takes", twice.takes(0), 0);
        due("twice: FETCHES", twice.of(0, 4), 2);
        due("twice: COINS by how all was as each began", twice.of(0, 5), 15);
        due("twice: CUPS", twice.of(0, 3), 0);
        LittleLeft early = Check.kitchen("want 9 g<2;full 5", 15, Check.a(3, 0, 10));
        due("WANTS as the TAKING begins", early.takes(0), 19);
        due("GRAINS", early.told(0), 31);
        LittleLeft odd = Check.kitchen("", 60, Check.a(2, 0, 31));
        due("POLITE: the half, cut", odd.takes(0), 15);
        LittleLeft one = Check.kitchen("least 0", 1, Check.a(2, 0, 1));
        due("POLITE: the half of 1", one.takes(0), 0);
        LittleLeft least = Check.kitchen("least 50", 60, Check.a(0, 0, 30), Check.a(5, 0, 5));
        due("TAKER down to least", least.takes(0), 10);
        due("not fetched at least", least.of(0, 4), 0);
        due("NEW below least", least.takes(1), 5);
        due("fetched below least", least.of(1, 4), 1);
        due("told(0)", least.told(0), 200);
        LittleLeft wants = Check.kitchen("want 99 p=0;want 99 p=0;want 99 p=0", 990, Check.a(5, 0, 60));
        due("WANTS by many CLAUSES", wants.takes(0), 357);
    }

    private static void told() {
        LittleLeft x = Check.kitchen("", 49, Check.a(6, 0, 30));
        x.row(0, 0, 5);
        x.row(0, 2, 9);
        due("TOLD fetches first below 50", x.would(0, 1), 170);
        x.fill(50);
        due("TOLD does not at 50", x.would(0, 1), 20);
        due("day()", x.day(), 0);
        due("TOLD on another DAY", x.would(0, 1), 5);
        due("day()", x.day(), 0);
        due("TOLD on DAY 2", x.would(0, 1), 170);
        due("on(1, 1)", x.on(1, 1), 1);
        due("on(4, 1)", x.on(4, 1), 1);
        x.day();
        x.day();
        x.fill(30);
        due("TOLD on DAY 4: the first of the row", x.would(0, 2), 1);
    }

    private static void takes() {
        LittleLeft x = Check.kitchen("", 100, Check.a(0, 0, 30));
        due("takes(1)", x.takes(1), -1);
        due("takes(-1)", x.takes(-1), -1);
        due("takes(0)", x.takes(0), 30);
        due("DAY stays", x.told(1), 0);
        due("nobody takes", new LittleLeft().takes(0), -1);
    }

    private static void day() {
        LittleLeft x = Check.kitchen("", 100, Check.a(0, 0, 30), Check.a(5, 0, 50));
        due("day()", x.day(), 0);
        due("told(0)", x.told(0), 20);
        due("told(1)", x.told(1), 1);
        due("day()", x.day(), 1);
        due("told(0)", x.told(0), 200);
        due("who took how often", x.of(0, 3) * 10 + x.of(1, 3), 22);
        due("who fetched", x.of(0, 4) * 10 + x.of(1, 4), 1);
        LittleLeft y = Check.kitchen("full 0", 0, Check.a(3, 0, 30), Check.a(3, 0, 30), Check.a(0, 0, 1));
        due("day() with five FETCHES", y.day(), 5);
        LittleLeft nobody = new LittleLeft();
        due("a day of nobody", nobody.day(), 0);
        due("its DAY", nobody.told(1), 1);
    }

    /** Beyond what is promised of one object (512 calls), but there is no other way to DAY 9999. */
    private static void lastDay() {
        LittleLeft x = Check.kitchen("want 1 d=3", 100, Check.a(5, 0, 1));
        int fetches = 0;
        for (int i = 0; i < 9999; i++) {
            fetches += x.day();
        }
        due("DAY", x.told(1), 9999);
        due("FETCHES of 9999 DAYS", x.told(4), fetches);
        int grains = x.told(0);
        due("day() on 9999", x.day(), -3);
        due("DAY stays", x.told(1), 9999);
        due("GRAINS stay", x.told(0), grains);
        due("asked beyond: 9999 modulo 7 is 3", x.on(1, 0), grains - 2);
        due("asked beyond", x.on(2, 0), grains - 3);
    }

    private static void on() {
        LittleLeft x = Check.kitchen("pay 9 f=0;pay 2 f>0", 100, Check.a(5, 0, 30), Check.a(0, 0, 1));
        // 70 69, 39 38, 8 7, 0: fetched, 200 199, 169 168 ..
        int[] grains = {100, 69, 38, 7, 199, 168};
        int[] fetches = {0, 0, 0, 0, 1, 1};
        for (int n = 0; n < grains.length; n++) {
            due("on(" + n + ", 0)", x.on(n, 0), grains[n]);
            due("on(" + n + ", 1)", x.on(n, 1), fetches[n]);
            due("on(" + n + ", 2)", x.on(n, 2), 9 * fetches[n]);
            due("on(" + n + ", 10)", x.on(n, 10), n);
            due("on(" + n + ", 11)", x.on(n, 11), n);
            due("on(" + n + ", 20)", x.on(n, 20), fetches[n]);
            due("on(" + n + ", 21)", x.on(n, 21), 0);
        }
        due("nothing has changed", x.told(0) + x.told(1) + x.told(4) + x.of(0, 3), 100);
        for (int i = 0; i < 4; i++) {
            x.day();
        }
        due("how many more", x.on(0, 1) + x.on(0, 2) + x.on(0, 10) + x.on(0, 20), 0);
        due("on(7, 1) from there", x.on(7, 1), 1);
        due("on(7, 2) from there", x.on(7, 2), 2);
        due("on(7, 10) from there", x.on(7, 10), 7);
        due("on(7, 20) from there", x.on(7, 20), 1);
        due("on(60, 0)", x.on(60, 0) >= 0 ? 1 : 0, 1);
        due("on(61, 0)", x.on(61, 0), -2);
        due("on(-1, 11)", x.on(-1, 11), -2);
        int[] none = {-1, 3, 9, 12, 19, 22, 30, Integer.MIN_VALUE, Integer.MAX_VALUE};
        for (int what : none) {
            due("on(61, " + what + ")", x.on(61, what), -1);
        }
        LittleLeft nobody = new LittleLeft();
        due("nobody: on(60, 0)", nobody.on(60, 0), 100);
        due("nobody: on(60, 2)", nobody.on(60, 2), 0);
        due("nobody: on(60, 10)", nobody.on(60, 10), -1);
    }

    private static void would() {
        LittleLeft all = Check.kitchen("want 9 v=3;want 20 k=5;want 30 p=0", 100, Check.a(5, 3, 1));
        due("by what is asked of it", all.would(0, 0), 60);
        due("on(1, 0)", all.on(1, 0), 40);
        LittleLeft x = Check.kitchen("", 100, Check.a(0, 0, 30));
        due("would(1, 0)", x.would(1, 0), -1);
        due("would(-1, 0)", x.would(-1, 0), -1);
        due("would(0, 3)", x.would(0, 3), -1);
        due("would(0, -1)", x.would(0, -1), -1);
        due("nothing has changed", x.of(0, 3) + x.told(0), 100);
    }

    private static void next() {
        LittleLeft x = Check.kitchen("", 100, Check.a(0, 0, 30), Check.a(5, 0, 50));
        due("next(0)", x.next(0), 1);
        due("next(1)", x.next(1), 1);
        due("next(2)", x.next(2), -1);
        due("next(-1)", x.next(-1), -1);
        x.day();
        due("next(1) a day later", x.next(1), 0);
        x.day();
        due("FETCHES ahead do not count", x.next(1), 2);
        LittleLeft never = Check.kitchen("", 100, Check.a(0, 0, 30));
        due("never: next(0)", never.next(0), -5);
        due("never: next(1)", never.next(1), -5);
        due("never: next(2)", never.next(2), -1);
        LittleLeft late = Check.kitchen("", 64, Check.a(5, 0, 1));
        due("on DAY 59 from now", late.next(1), 59);
        late.fill(65);
        due("on DAY 60 from now", late.next(1), -5);
        LittleLeft third = Check.kitchen("want 99 d=2", 100, Check.a(5, 0, 1));
        due("by what is wanted on DAY 2", third.next(1), 2);
        LittleLeft nobody = new LittleLeft();
        due("nobody: next(0)", nobody.next(0), -5);
        due("nobody: next(2)", nobody.next(2), -1);
    }
}

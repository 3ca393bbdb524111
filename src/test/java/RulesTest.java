/** Promise 8: rules, their faults, and what their parts ask. */
public final class RulesTest {
    private static final Check CHECK = new Check("RulesTest");

    public static void main(String[] args) {
        faults();
        clauses();
        nesting();
        longTexts();
        numbersAndHolding();
        oneTextBehindAnother();
        whatTestsAsk();
        howTestsJoin();
        CHECK.end();
    }

    private static void due(String call, long got, long want) {
        CHECK.due(call, got, want);
    }

    /** A text that is a rule (fault -1), or has its fault at a place. */
    private static void read(String text, int fault) {
        LittleLeft x = new LittleLeft();
        Check.feed(x, text);
        due("rule() of " + text, x.rule(), fault < 0 ? 0 : -10 - fault);
        due("count(1) behind " + text, x.count(1), fault < 0 ? 1 : 0);
        due("count(4) behind " + text, x.count(4), 0);
    }

    /** A rule of whose beginnings none is one, but for that of a length (0: none at all). */
    private static void begun(String whole, int shorter) {
        for (int n = 0; n < whole.length(); n++) {
            if (n != shorter || n == 0) {
                read(whole.substring(0, n), n);
            }
        }
        read(whole, -1);
    }

    private static void faults() {
        begun("want 5 d<3", 0);
        begun("pay 5 !(p=1|k<2)&f>3", 16);
        begun("full 1", 0);
        begun("least 1", 0);
        read("want 5 d<3 ", 10);
        read("want 5  d<3", 7);
        read("want  5 d<3", 5);
        read("want5 d<3", 4);
        read("want\t5 d<3", 4);
        read("Want 5 d<3", 0);
        read(" want 5 d<3", 0);
        read("wart 5 d<3", 2);
        read("want x d<3", 5);
        read("want 123 d<3", 7);
        read("want 12 d<3", -1);
        read("want 5;", 6);
        read("pay 99 f>99", -1);
        read("pay 1 f>100", 10);
        read("pay 1 x=1", 6);
        read("pay 1 P=1", 6);
        read("pay 1 1=p", 6);
        read("pay 1 p1", 7);
        read("pay 1 p==1", 8);
        read("pay 1 p<=1", 8);
        read("pay 1 p<-1", 8);
        read("pay 1 p>01", -1);
        read("pay 1 p=1|", 10);
        read("pay 1 p=1||p=2", 10);
        read("pay 1 p=1&&p=2", 10);
        read("pay 1 p=1 &p=2", 9);
        read("pay 1 (p=1", 10);
        read("pay 1 p=1)", 9);
        read("pay 1 (p=1)(p=2)", 11);
        read("pay 1 (p=1)p=2", 11);
        read("pay 1 ()", 7);
        read("pay 1 p!=1", 7);
        read("pay 1 !", 7);
        read("pay 1 k=1&v=2|g=3&d=4|f=5", -1);
    }

    private static void clauses() {
        read("least 5", -1);
        read("least 55", -1);
        read("least 555", 8);
        read("least", 5);
        read("least 5;", 8);
        read("least 5;;least 5", 8);
        read("least 5; least 5", 8);
        read(";least 5", 0);
        read("least a", 6);
        read("least 5 p=1", 7);
        read("full 0", -1);
        read("full 1 p=1", 6);
        read("fall 1", 1);
        read("full 00;least 00;pay 00 p=00;want 0 p=0", -1);
        String ten = "full 1;full 1;full 1;full 1;full 1;full 1;full 1;full 1;full 1;full 1";
        read(ten, -1);
        read(ten + ";", 69);
        read(ten + ";full 1", 69);
        read("pay 1 p=0;full 1;full 1;full 1;full 1;full 1;full 1;full 1;full 1;full 1;x", 72);
    }

    private static void nesting() {
        read("pay 1 ((((p=1))))", -1);
        read("want 1 ((((p=1))))", -1);
        read("pay 1 (((((p=1)))))", 10);
        read("want 1 (((((p=1)))))", 11);
        read("pay 1 !!!!p=1", -1);
        read("pay 1 !!!!!p=1", 10);
        read("pay 1 !(!(p=1))", -1);
        read("pay 1 !(!(!p=1))", 10);
        read("pay 1 (!(!(p=1)))", 10);
        read("pay 1 !!(!(p=1)))", 10);
        read("pay 1 ((((p=1))))&((((p=2))))|!!!!p=3", -1);
        read("pay 1 (((p=1|!p=2&!p=3)))&!((!p=4))", -1);
        read("pay 1 (((p=1|!!p=2)))", 14);
        read("pay 1 ((((p=1)))", 16);
    }

    private static void longTexts() {
        String tests = "p=1|".repeat(21);
        read("want 1 " + tests + "p=10|p<10", -1);
        read("want 1 " + tests + "p=1|p=1|p", 100);
        read("want 1 " + tests + "p=1|p=1||", 99);
    }

    private static void numbersAndHolding() {
        LittleLeft x = Check.kitchen("", 100, Check.a(0, 0, 10));
        due("a rule", Check.rule(x, "want 5 p=0"), 0);
        due("WANTS", x.of(0, 6), 15);
        due("a fault", Check.rule(x, "want 9 p=0;full 3;"), -10 - 18);
        due("the one that held holds: WANTS", x.of(0, 6), 15);
        due("the one that held holds: FULL", x.told(3), 200);
        for (int n = 1; n < 6; n++) {
            due("rule " + n, Check.rule(x, "want " + n + " p=0"), n);
            due("WANTS by rule " + n, x.of(0, 6), 10 + n);
        }
        Check.feed(x, "least 9");
        due("a seventh rule", x.rule(), -4);
        due("THE TEXT stays", x.count(4), 7);
        due("the sixth holds", x.of(0, 6), 15);
        due("count(1)", x.count(1), 6);
        due("a text that is none, behind six", Check.rule(x, "x"), -4);
        due("THE TEXT stays", x.count(4), 8);
    }

    private static void oneTextBehindAnother() {
        LittleLeft x = Check.kitchen("", 100, Check.a(0, 0, 10));
        due("full 12", Check.rule(x, "full 12"), 0);
        due("a shorter text", Check.rule(x, "full 1"), 1);
        due("its FULL", x.told(3), 10);
        due("a fault", Check.rule(x, "full 3;least 9;want 5 p=0;x"), -10 - 26);
        due("a shorter text", Check.rule(x, "pay 1 p=0"), 2);
        due("its FULL", x.told(3), 200);
        due("its least", x.told(2), 5);
        due("its WANTS", x.of(0, 6), 10);
        for (int i = 0; i < 4; i++) {
            due("a long one with a fault", Check.rule(x, "want 1 " + "p=1|".repeat(22) + "|"), -10 - 95);
        }
        due("the third", Check.rule(x, "want 5 p=0&k=0;pay 1 p=0|k=1"), 3);
        due("its WANTS", x.of(0, 6), 15);
        due("its PAY", x.of(0, 7), 1);
        due("a shorter one with a fault", Check.rule(x, "pay 1 p"), -10 - 7);
        due("PAY", x.of(0, 7), 1);
    }

    private static int wants(String e, int grains, int taker) {
        LittleLeft x = Check.kitchen("want 50 " + e, grains,
            Check.a(1, 3, 1), Check.a(4, 9, 1), Check.a(6, 0, 1));
        return x.of(taker, 6) - 1;
    }

    private static void whatTestsAsk() {
        due("p=1 of 1", wants("p=1", 100, 1), 50);
        due("p=1 of 0", wants("p=1", 100, 0), 0);
        due("p<1 of 0", wants("p<1", 100, 0), 50);
        due("p<1 of 1", wants("p<1", 100, 1), 0);
        due("p>1 of 1", wants("p>1", 100, 1), 0);
        due("p>1 of 2", wants("p>1", 100, 2), 50);
        due("k=4 of GREEDY", wants("k=4", 100, 1), 50);
        due("k=1 of GREEDY", wants("k=1", 100, 1), 0);
        due("v=9", wants("v=9", 100, 1), 50);
        due("v=3", wants("v=3", 100, 0), 50);
        due("v=3 of v 0", wants("v=3", 100, 2), 0);
        due("g=9 of 99", wants("g=9", 99, 0), 50);
        due("g=9 of 89", wants("g=9", 89, 0), 0);
        due("g=99 of 990", wants("g=99", 990, 0), 50);
        due("g=0 of 9", wants("g=0", 9, 0), 50);
        LittleLeft x = Check.kitchen("want 9 d=6;want 20 f=2;pay 1 d=0", 100, Check.a(5, 0, 1));
        for (int day = 0; day < 15; day++) {
            due("WANTS on day " + day, x.of(0, 6), day % 7 == 6 ? 10 : 1);
            due("PAY on day " + day, x.of(0, 7), day % 7 == 0 ? 1 : 0);
            x.fill(100);
            x.day();
        }
        LittleLeft y = Check.kitchen("want 9 f=2;want 30 f>99", 100, Check.a(5, 0, 1));
        for (int f = 0; f < 104; f++) {
            due("WANTS with FETCHES " + f, y.of(0, 6), f % 100 == 2 ? 10 : 1);
            y.fill(0);
            y.takes(0);
        }
    }

    private static void howTestsJoin() {
        String[][] alike = {
            {"p=0|p=1&p=2", "p=0"},
            {"p=1&p=2|p=0", "p=0"},
            {"(p=0|p=1)&p=1", "p=1"},
            {"!p=0", "p>0"},
            {"!p=0&p<2", "p=1"},
            {"!(p=0&p<2)", "p>0"},
            {"!!p=0", "p=0"},
            {"p=0|p=1|p=2", "p<9"},
            {"p<3&p<2&p<1", "p=0"},
            {"!(p=0|p=2)", "p=1"},
            {"(p=0|p=2)&!(p=2|p=1)", "p=0"},
            {"p=2|(p=0&k=1)", "!p=1"},
            {"p=2|p=1&(p=0|p=1)", "p>0"},
        };
        for (String[] two : alike) {
            for (int p = 0; p < 3; p++) {
                due(two[0] + " of " + p, wants(two[0], 100, p), wants(two[1], 100, p));
            }
        }
    }
}

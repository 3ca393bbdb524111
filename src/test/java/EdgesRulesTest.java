import java.io.IOException;
import java.util.function.Supplier;

/** Edges of promise 8: texts that are rules, that end too early, that go on too long; what is refused. */
public final class EdgesRulesTest {
    private static final String DIGITS = "0123456789";
    private static final String FACTORS = "pkvgdf!(";
    private static final String ONE = "full 1";
    private static final String TEN = (ONE + ";").repeat(9) + ONE;
    private final Edges e = new Edges("EdgesRulesTest");

    private EdgesRulesTest() throws IOException {
    }

    public static void main(String[] args) throws IOException {
        EdgesRulesTest test = new EdgesRulesTest();
        test.clauses();
        test.allClauses();
        test.words();
        test.blanks();
        test.numbers();
        test.parts();
        test.within();
        test.tooEarly();
        test.hundred();
        test.emptyThen();
        test.newest();
        test.refused();
        test.e.end(8);
    }

    /** A text that is a rule. */
    private void rule(String text) {
        LittleLeft x = new LittleLeft();
        Check.feed(x, text);
        e.in("rule() of " + text, x.rule(), 0);
        e.in("count(1) behind " + text, x.count(1), 1);
        e.in("count(4) behind " + text, x.count(4), 0);
    }

    /** A text that has its FAULT at a place. */
    private void fault(String text, int place) {
        LittleLeft x = new LittleLeft();
        Check.feed(x, text);
        e.out("rule() of " + text, x.rule(), -10 - place);
        e.out("count(1) behind " + text, x.count(1), 0);
    }

    /** Of all signs those alone may stand behind this beginning. */
    private void behind(String text, String signs) {
        for (char sign = 0; sign < 128; sign++) {
            LittleLeft x = new LittleLeft();
            Check.feed(x, text + sign);
            int answer = x.rule();
            String call = "sign " + (int) sign + " behind \"" + text + "\" ";
            if (signs.indexOf(sign) >= 0) {
                e.in(call + answer, answer >= 0 || answer == -10 - text.length() - 1 ? 1 : 0, 1);
            } else {
                e.out(call, answer, -10 - text.length());
            }
        }
    }

    private void clauses() {
        e.edge(8, "CLAUSES, 1 to 10, with ; between");
        fault("", 0);
        rule(ONE);
        rule(ONE + ";" + ONE);
        rule(TEN);
        fault(TEN + ";", 69);
        fault(TEN + ";" + ONE, 69);
        fault(";" + ONE, 0);
        fault(ONE + ";", 7);
        fault(ONE + ";;" + ONE, 7);
        fault(ONE + ONE, 6);
        behind("", "wlfp");
        behind(ONE, DIGITS + ";");
        behind(TEN, DIGITS);
        behind(TEN + "1", "");
        behind(TEN.substring(7), DIGITS + ";");
    }

    private void allClauses() {
        e.edge(8, "A RULE is read from THE TEXT (bytes, 100 at most): CLAUSES, 1 to 10");
        LittleLeft x = Check.kitchen("", 0, Check.a(0, 0, 1));
        String pay = "pay 1 p=0";
        e.in("one", Check.rule(x, pay), 0);
        e.in("PAY by one", x.of(0, 7), 1);
        e.in("ten", Check.rule(x, (pay + ";").repeat(9) + pay), 1);
        e.in("PAY by ten", x.of(0, 7), 10);
        e.in("WANTS by ten", x.of(0, 6), 1);
        e.in("ten, of which the last is another", Check.rule(x, (ONE + ";").repeat(9) + "least 9"), 2);
        e.in("least by the tenth", x.told(2), 9);
        e.in("PAY by none", x.of(0, 7), 0);
        e.out("ten and a ;", Check.rule(x, (pay + ";").repeat(9) + pay + ";"), -10 - 99);
        // None of what stood in a text with a FAULT is left in the next one.
        e.out("a FAULT behind two", Check.rule(x, "want 1 p=0;want 9 p=0;x"), -10 - 22);
        e.in("one", Check.rule(x, "want 5 p=0"), 3);
        e.in("WANTS by it alone", x.of(0, 6), 6);
    }

    private void words() {
        e.edge(8, "want n E; least n; full n; pay n E");
        for (String word : new String[] {"want ", "least ", "full ", "pay "}) {
            for (int i = 1; i < word.length(); i++) {
                behind(word.substring(0, i), word.substring(i, i + 1));
            }
            behind(word, DIGITS);
        }
    }

    private void blanks() {
        e.edge(8, "(one blank ahead of each part behind the word; n 1 or 2 digits)");
        rule("want 5 p=1");
        fault("want5 p=1", 4);
        fault("want  5 p=1", 5);
        fault("want 5p=1", 6);
        fault("want 5  p=1", 7);
        fault("want 5 p=1 ", 10);
        fault(" want 5 p=1", 0);
        rule("pay 5 p=1");
        fault("pay5 p=1", 3);
        fault("pay  5 p=1", 4);
        fault("pay 5p=1", 5);
        fault("pay 5  p=1", 6);
        rule("least 5");
        fault("least5", 5);
        fault("least  5", 6);
        fault("least 5 ", 7);
        rule("full 5");
        fault("full5", 4);
        fault("full  5", 5);
        fault("full 5 ", 6);
        fault("full 5 ;full 5", 6);
        fault("full 5; full 5", 7);
    }

    private void numbers() {
        e.edge(8, "n 1 or 2 digits");
        for (String word : new String[] {"want ", "pay "}) {
            fault(word + " p=1", word.length());
            rule(word + "0 p=1");
            rule(word + "99 p=1");
            fault(word + "100 p=1", word.length() + 2);
            behind(word + "1", DIGITS + " ");
            behind(word + "10", " ");
        }
        for (String word : new String[] {"least ", "full "}) {
            fault(word + ";full 1", word.length());
            rule(word + "0");
            rule(word + "99");
            fault(word + "100", word.length() + 2);
            behind(word + "1", DIGITS + ";");
            behind(word + "10", ";");
        }

        e.edge(8, "a letter, < or = or >, a number (1 or 2 digits)");
        for (char letter : "pkvgdf".toCharArray()) {
            behind("pay 1 " + letter, "<=>");
            for (char sign : "<=>".toCharArray()) {
                String test = "pay 1 " + letter + sign;
                fault(test, 8);
                rule(test + "0");
                rule(test + "99");
                fault(test + "100", 10);
            }
        }
        behind("pay 1 p<", DIGITS);
        behind("want 1 f>1", DIGITS + "&|;");
        behind("want 1 f>11", "&|;");
    }

    private void parts() {
        e.edge(8, "E: T or T|E. T: F or F&T. F: !F, (E), or a TEST");
        behind("pay 1 ", FACTORS);
        behind("want 1 ", FACTORS);
        behind("want 1 !", FACTORS);
        behind("want 1 (", FACTORS);
        behind("want 1 p=1|", FACTORS);
        behind("want 1 p=1&", FACTORS);
        behind("want 1 (p=1|", FACTORS);
        behind("want 1 (p=1&", FACTORS);
        behind("want 1 (p=1", DIGITS + "&|)");
        behind("want 1 (p=11", "&|)");
        behind("want 1 ((p=1)", "&|)");
        behind("want 1 (p=1)", "&|;");
        behind("want 1 !p=11", "&|;");
        behind("want 1 !(p=1)", "&|;");
        behind("want 1 p=1;", "wlfp");
    }

    private void within() {
        e.edge(8, "A ( or ! within 4 others is none.");
        for (String three : new String[] {"(((", "!!!", "(!(", "!(!", "!!(", "((!"}) {
            behind("pay 1 " + three, FACTORS);
            behind("pay 1 " + three + "(", "pkvgdf");
            behind("pay 1 " + three + "!", "pkvgdf");
        }
        rule("pay 1 ((((p=1))))");
        rule("pay 1 !!!!p=1");
        fault("pay 1 (((((p=1)))))", 10);
        fault("pay 1 !!!!!p=1", 10);
        // Those that have ended are no longer about what follows.
        rule("pay 1 ((((p=1))))&((((p=1))))|!!!!p=1&!!!!p=1;want 1 ((((p=1))))");
        rule("pay 1 !!!!p=1&(p=1)");
        rule("pay 1 (((p=1&!p=1|!p=1&(p=1))))");
        fault("pay 1 (((p=1&!p=1|!p=1&((p=1)))))", 24);
        fault("pay 1 (((p=1&!!p=1)))", 14);
    }

    private void tooEarly() {
        e.edge(8, "The FAULT: the place of the first byte with which none begins so (the end of THE TEXT, if it ends too early).");
        String[] texts = {"want 15 !(p=1|k<22)&f>3", "least 15", "full 15", "pay 15 ((d=6))|v>9", "full 1;least 2"};
        for (String text : texts) {
            for (int n = 0; n < text.length(); n++) {
                String begun = text.substring(0, n);
                if (isWhole(begun)) {
                    rule(begun);
                } else {
                    fault(begun, n);
                }
                fault(begun + (char) 0, n);
            }
            rule(text);
        }
    }

    /** Of the beginnings of these texts. */
    private static boolean isWhole(String begun) {
        return begun.matches("(least|full) \\d+(;least \\d)?|want 15 !\\(p=1\\|k<22\\)(&f>3)?|pay 15 \\(\\(d=6\\)\\)(\\|v>9)?");
    }

    private void hundred() {
        e.edge(8, "A RULE is read from THE TEXT (bytes, 100 at most)");
        String tests = "want 1 " + "p=1|".repeat(21);
        rule(tests + "p=1|p=10");
        rule(tests + "p=10|p=10");
        fault(tests + "p=1|p=1|p", 100);
        fault(tests + "p=1|p=10|", 100);
        fault(tests + "p=1|p=1||", 99);
        fault(tests + "p=1|p=1|", 99);
        LittleLeft x = new LittleLeft();
        Check.feed(x, tests + "p=10|p=10");
        e.in("count(4)", x.count(4), 100);
        e.out("a sign beyond", x.feed(';'), -4);
        e.in("rule() of the 100", x.rule(), 0);
        e.in("feed(0) behind that", x.feed(0), 1);
    }

    private void emptyThen() {
        e.edge(8, "THE TEXT, which is empty then, is a RULE, and holds: its number.");
        LittleLeft x = Check.kitchen("", 0, Check.a(0, 0, 1));
        e.in("the first", Check.rule(x, "want 5 p=0"), 0);
        e.in("THE TEXT is empty", x.count(4), 0);
        e.out("nothing is none", x.rule(), -10);
        e.in("the second", Check.rule(x, "want 6 p=0"), 1);
        e.in("it holds", x.of(0, 6), 7);
        e.out("of a FAULT", Check.rule(x, "full 1;"), -17);
        e.out("THE TEXT is empty, too", x.count(4), 0);
        e.out("it holds no longer than", x.of(0, 6), 7);
        e.in("the third", Check.rule(x, "full 2"), 2);
        e.in("it holds", x.of(0, 6), 1);
        e.in("it holds", x.told(3), 20);
    }

    private static LittleLeft rules(int n) {
        return Whole.with(x -> {
            x.rule();
            for (int i = 2; i < n; i++) {
                Check.rule(x, "full " + i);
            }
            Check.feed(x, ONE);
        });
    }

    private void newest() {
        e.edge(8, "The newest RULE holds (6 at most)");
        LittleLeft x = rules(5);
        e.in("count(1)", x.count(1), 5);
        e.in("a sixth", x.rule(), 5);
        e.in("it holds", x.told(3), 10);
        e.in("count(1)", x.count(1), 6);
        e.out("a seventh", Check.rule(x, "full 2"), -4);
        e.out("the sixth holds", x.told(3), 10);
        e.out("count(1)", x.count(1), 6);

        e.edge(8, "FULL: there are 6 (THE TEXT stays)");
        e.in("five: rule()", rules(5).rule(), 5);
        Supplier<LittleLeft> six = () -> rules(6);
        e.refused("six: rule()", six, y -> y.rule(), -4);
        LittleLeft y = rules(6);
        e.out("rule()", y.rule(), -4);
        e.out("count(4)", y.count(4), 6);
        e.out("feed('x')", y.feed('x'), 7);
        e.out("of a text that is none", y.rule(), -4);
        e.out("count(4)", y.count(4), 7);
        e.out("of no text", Whole.with(z -> sixOfNoText(z)).rule(), -4);
    }

    private static void sixOfNoText(LittleLeft x) {
        x.rule();
        for (int i = 2; i < 6; i++) {
            Check.rule(x, ONE);
        }
    }

    /** A kitchen whose text has ended, so that a text with a FAULT leaves it as it is. */
    private static LittleLeft noText() {
        return Whole.with(LittleLeft::rule);
    }

    private void refused() {
        e.edge(8, "-10 less the FAULT (the one that held holds)");
        e.in("no FAULT", Check.rule(noText(), ONE), 2);
        e.refused("no text", EdgesRulesTest::noText, x -> x.rule(), -10);
        e.refused("x", EdgesRulesTest::noText, x -> Check.rule(x, "x"), -10);
        e.refused("another least and full, and a FAULT", EdgesRulesTest::noText,
            x -> Check.rule(x, "least 9;full 77;want 9 p<9;pay 9 p<9;"), -10 - 37);
        e.refused("eleven CLAUSES", EdgesRulesTest::noText, x -> Check.rule(x, TEN + ";" + ONE), -10 - 69);
        e.refused("100 signs", EdgesRulesTest::noText,
            x -> Check.rule(x, "want 1 " + "p=1|".repeat(23) + "p"), -10 - 100);
        LittleLeft none = Check.kitchen("", 0, Check.a(0, 0, 7));
        e.out("none holds: rule()", Check.rule(none, "want 9 p=0;full 3;"), -10 - 18);
        e.out("none holds: WANTS", none.of(0, 6), 7);
        e.out("none holds: FULL", none.told(3), 200);
        e.out("none holds: count(1)", none.count(1), 0);
    }
}

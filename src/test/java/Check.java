/** Counts and prints the calls whose answer is not the one that is due. */
final class Check {
    private final String name;
    private int wrong = 0;
    private int asked = 0;

    Check(String name) {
        this.name = name;
    }

    void due(String call, long got, long want) {
        asked++;
        if (got != want) {
            wrong++;
            System.out.println(name + ": " + call + " answered " + got + ", due is " + want);
        }
    }

    /** Ends the run with exit code 1 if an answer was wrong. */
    void end() {
        if (asked == 0) {
            System.out.println(name + ": nothing was asked");
            System.exit(1);
        }
        System.out.println(name + ": " + asked + " answers, " + wrong + " not as due");
        if (wrong != 0) {
            System.exit(1);
        }
    }

    static void feed(LittleLeft x, String text) {
        for (int i = 0; i < text.length(); i++) {
            x.feed(text.charAt(i));
        }
    }

    /** A text as a rule: what rule() answers. */
    static int rule(LittleLeft x, String text) {
        feed(x, text);
        return x.rule();
    }

    /** A kitchen with a rule ("" for none), GRAINS, and takers of kind, v, portion. */
    static LittleLeft kitchen(String rule, int grains, int[]... takers) {
        LittleLeft x = new LittleLeft();
        if (!rule.isEmpty() && rule(x, rule) != 0) {
            throw new IllegalArgumentException(rule);
        }
        x.fill(grains);
        for (int[] taker : takers) {
            x.taker(taker[0], taker[1], taker[2]);
        }
        return x;
    }

    static int[] a(int kind, int v, int portion) {
        return new int[] {kind, v, portion};
    }
}

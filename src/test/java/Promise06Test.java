/** Promise 6: want. */
public final class Promise06Test extends Promise {
    public static void main(String[] args) {
        begin(6);
        tellsWhichItWas();
        bits1To15();
        refusesOther();
        countAtTheEnd();
        end();
    }

    private static void tellsWhichItWas() {
        sentence("WANTED: which it was.");
        FewerSteps x = new FewerSteps();
        int before = 15;
        for (int set = 1; set <= 15; set++) {
            is("want(" + set + ")", x.want(set), before);
            is("told(2)", x.told(2), set);
            before = set;
        }
        is("the same once more", x.want(15), 15);
    }

    private static void bits1To15() {
        sentence("(bits 1 to 15; 15 at first)");
        is("at first", new FewerSteps().told(2), 15);
        is("the least", new FewerSteps().want(1), 15);
        is("the most", new FewerSteps().want(15), 15);
    }

    private static void refusesOther() {
        sentence("OUTSIDE.");
        refusedBeyond(() -> Due.with("a=b", 6), "want", 1, 15, FewerSteps::want, OUTSIDE);
        FewerSteps x = Due.with("a=b", 9);
        x.want(0);
        x.want(16);
        is("which it was behind two that were refused", x.want(1), 9);
    }

    private static void countAtTheEnd() {
        sentence("WANTED: REGISTERS that count at its end");
        for (int r = 0; r < 4; r++) {
            FewerSteps x = new FewerSteps();
            x.want(1 << r);
            is("live(0)", x.live(0), 1 << r);
            is("held(0)", x.held(0), 1 << r);
            Due.code(x, (char) ('a' + r) + "=1");
            is("dead steps", x.bad(0), 0);
            x.want(15 - (1 << r));
            is("dead steps, all others being wanted", x.bad(0), 1);
        }
    }
}

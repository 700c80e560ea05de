/** Promise 33: go. */
public final class Promise33Test extends Promise {
    public static void main(String[] args) {
        begin(33);
        tillNoneFits();
        theFirstRule();
        twentyTimesAtMost();
        tillMoreThanTwelve();
        nothingToDo();
        end();
    }

    private static void go(int times, String then, String code, String... rules) {
        FewerSteps x = Due.with(code);
        for (String rule : rules) {
            Due.rule(x, rule);
        }
        is("go() in " + code, x.go(), times);
        text("the code", Due.read(x), then);
        is("rules stay", x.told(3), rules.length);
    }

    private static void tillNoneFits() {
        sentence("again and again the first RULE that FITS anywhere is REPLACED at its first STEP, till none FITS");
        go(2, "c=1", "a=a;c=1;b=b", new String[] {"d=d>"});
        go(4, "", "a=a;b=b;c=c;d=d", new String[] {"d=d>"});
        go(1, "a=b", "a=+b0", new String[] {"a=+b0>a=b"});
        go(12, "", TWELVE, new String[] {"a=1>"});
    }

    private static void theFirstRule() {
        sentence("the first RULE that FITS anywhere is REPLACED at its first STEP");
        go(4, "b=2;a=3;a=3", "a=1;a=2;b=1", "c=1>c=2", "c=2;a=2>a=2;c=3");
        // the first rule, though the second one fits at an earlier step
        go(2, "a=3", "a=1;a=2", "a=2>", "a=1>a=3");
        go(1, "a=4", "a=1;a=2", "a=1;a=2>a=4", "a=1>a=3");
        go(2, "a=3;a=5", "a=1;a=2", "a=2>a=5", "a=1>a=3");
        go(1, "a=7", "a=4", "a=1>", "a=2>", "a=3>", "a=4>a=7");
    }

    private static void twentyTimesAtMost() {
        sentence("20 times at most");
        go(20, "a=b", "a=b", new String[] {"a=b>a=b"});
        go(20, "a=c", "a=c", "a=b>a=b", "a=b>");
        // each third time there is one step more: six of them, and two times
        go(20, "a=2" + ";a=3".repeat(6), "a=0", "a=0>a=1", "a=1>a=2", "a=2>a=0;a=3");
    }

    private static void tillMoreThanTwelve() {
        sentence("or till more than 12 STEPS would be there");
        go(10, "a=1;" + "a=1;b=1;".repeat(5) + "a=1", "a=1;a=1", new String[] {"c=1>d=1;d=1"});
        go(0, TWELVE, TWELVE, new String[] {"c=1>c=1;c=1"});
        go(1, "a=2;a=2" + ";a=1".repeat(10), "a=1" + ";a=1".repeat(10), new String[] {"c=1>c=2;c=2"});
        go(20, TWELVE, TWELVE, new String[] {"c=1>c=1"});
        // the first rule that fits would make it too long: no other is asked
        go(0, TWELVE, TWELVE, "c=1>d=1;d=1", "a=1>");
        // one that does not fit does not matter
        go(12, "", TWELVE, "c=2>d=1;d=1", "a=1>");
    }

    private static void nothingToDo() {
        sentence("GO: how many times.");
        go(0, "a=b", "a=b");
        go(0, "a=b", "a=b", new String[] {"a=1>"});
        go(0, "", "", new String[] {"a=1>a=2"});
        go(0, "");
    }

    private static void go(int times, String code) {
        FewerSteps x = Due.with(code);
        is("go() without rules", x.go(), times);
        text("the code", Due.read(x), code);
    }
}

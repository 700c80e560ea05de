/** Promises 28 to 34. */
public final class RulesTest {
    private static final int UNKNOWN = -1, OUTSIDE = -2, STATE = -3, FULL = -4, NO = -5, NONE = -6;
    private static final Due due = new Due();

    public static void main(String[] args) {
        rules();
        holds();
        fits();
        replaces();
        goes();
        shortests();
        due.end();
    }

    private static FewerSteps with(String code, String... rules) {
        FewerSteps x = Due.with(code);
        for (String rule : rules) {
            Due.rule(x, rule);
        }
        return x;
    }

    private static void rules() {
        FewerSteps x = new FewerSteps();
        due.is("28: no signs", x.rule(), NO);
        for (int n = 0; n < 4; n++) {
            Due.say(x, "a=b>");
            due.is("28: its number", x.rule(), n);
            due.is("28: signs are gone", x.told(1), 0);
        }
        due.is("28: no ahead of full", x.rule(), NO);
        Due.say(x, "a=c>");
        due.is("28: full", x.rule(), FULL);
        due.is("28: signs stay", x.told(1), 4);
        due.is("28: four", x.told(3), 4);
        due.is("29: free", x.free(), 4);
        due.is("29: none left", x.told(3), 0);
        due.is("29: free", x.free(), 0);
        due.is("28: from 0 on again", x.rule(), 0);
        due.is("29: the older ones are gone", x.holds(1), UNKNOWN);
    }

    private static void holds(String rule, int want) {
        due.is("30: holds of " + rule, with("", rule).holds(0), want);
    }

    private static void holds() {
        holds("a=+bb>a=*b2", 1);
        holds("a=*b0>a=0", 1);
        holds("a=mbb>a=b", 1);
        holds("a=-bb>a=0", 1);
        holds("a=+ab>", 0);
        holds("a=+a0>", 1);
        holds("a=mb6>a=b", 0);
        holds("c=-cd;c=+cd>", 1);
        holds("d=*d5;d=*d5>", 1);
        holds("a=b;b=a>a=b", 1);
        holds("a=b;b=1>b=1;a=b", 0);
        holds("a=1;b=2>b=2;a=1", 1);
        FewerSteps x = with("a=b", "d=1>");
        x.want(1);
        due.is("30: all registers count, wanted or not", x.holds(0), 0);
        due.is("30: no such rule", x.holds(1), UNKNOWN);
        due.is("30: no such rule", x.holds(-1), UNKNOWN);
    }

    private static void fit(String code, String rule, int want) {
        due.is("31: fits of " + rule + " in " + code, with(code, rule).fits(0), want);
    }

    private static void fits() {
        fit("", "a=b>", NONE);
        fit("c=d", "a=b>", 0);
        fit("c=c", "a=b>", NONE);
        fit("c=d", "a=a>", NONE);
        fit("c=3", "a=b>", NONE);
        fit("c=d", "a=3>", NONE);
        fit("c=3;d=4", "a=4>", 1);
        fit("a=+bc;a=-bc", "c=-ab>", 1);
        fit("a=+b1", "a=+1b>", NONE);
        fit("a=b;b=c;c=d", "a=b;b=c>", 0);
        fit("a=b;b=c;d=c", "a=b;c=b>", 1);
        fit("a=b;b=c;c=d", "a=b;c=d>", NONE);
        fit("a=b", "a=b;c=d>", NONE);
        fit("a=b;a=1;b=2;c=3", "d=1;a=2;b=3>", 1);
        fit("a=b;a=1;b=2", "d=1;a=2;b=3>", NONE);
        FewerSteps x = with("a=b");
        due.is("31: no such rule", x.fits(0), UNKNOWN);
        due.is("31: no such rule", x.fits(-1), UNKNOWN);
    }

    private static void replace(String code, String rule, String then) {
        FewerSteps x = with(code, rule);
        due.is("32: replace by " + rule + " in " + code, x.replace(0), then.isEmpty() ? 0 : then.split(";").length);
        due.text("32: replace by " + rule + " in " + code, Due.read(x), then);
    }

    private static void replaces() {
        replace("c=+da", "a=+bc>a=+cb", "c=+ad");
        replace("a=a", "b=b>", "");
        replace("a=1;c=c;b=2", "b=b>", "a=1;b=2");
        replace("d=c", "a=b>c=b;d=c;a=d", "a=c;b=a;d=b");
        replace("a=1;d=1;b=2", "c=1>a=3;b=4;d=5", "b=3;c=4;d=5;d=1;b=2");
        replace("a=b;b=a;c=d", "a=b;b=a>a=b", "a=b;c=d");
        replace("b=*c2;d=b", "a=*b2;c=a>a=+bb;c=+bb", "b=+cc;d=+cc");
        String eleven = "b=2;".repeat(10) + "a=1";
        replace(eleven, "a=1>c=1;a=c", "b=2;".repeat(10) + "b=1;a=b");
        FewerSteps x = with(eleven, "a=1>a=1;a=1;a=1", "c=5>");
        due.is("32: full", x.replace(0), FULL);
        due.text("32: nothing changed", Due.read(x), eleven);
        due.is("32: fits nowhere", x.replace(1), STATE);
        due.is("32: no such rule", x.replace(2), UNKNOWN);
        due.is("32: no such rule", x.replace(-1), UNKNOWN);
        FewerSteps y = with("a=1;a=1", "b=1>b=2;c=3");
        due.is("32: at its first step", y.replace(0), 3);
        due.text("32: at its first step", Due.read(y), "a=2;b=3;a=1");
    }

    private static void go(int times, String then, String code, String... rules) {
        FewerSteps x = with(code, rules);
        due.is("33: go in " + code, x.go(), times);
        due.text("33: go in " + code, Due.read(x), then);
        due.is("33: rules stay", x.told(3), rules.length);
    }

    private static void go(int times, String then, String code, String rule) {
        go(times, then, code, new String[] {rule});
    }

    private static void goes() {
        go(0, "a=b", "a=b");
        go(0, "a=b", "a=b", "a=1>");
        go(2, "c=1", "a=a;c=1;b=b", "d=d>");
        go(20, "a=b", "a=b", "a=b>a=b");
        go(20, "a=c", "a=c", "a=b>a=b", "a=b>");
        go(10, "a=1;" + "a=1;b=1;".repeat(5) + "a=1", "a=1;a=1", "c=1>d=1;d=1");
        // the first rule would make it too long: no other is asked
        go(0, "a=1;".repeat(11) + "a=1", "a=1;".repeat(11) + "a=1", "c=1>d=1;d=1", "a=1>");
        go(4, "b=2;a=3;a=3", "a=1;a=2;b=1", "c=1>c=2", "c=2;a=2>a=2;c=3");
    }

    private static void shortest(String code, int wanted, int... moves) {
        FewerSteps x = Due.with(code);
        x.want(wanted);
        due.is("34: shortest of " + code, x.shortest(-1), moves.length);
        for (int i = 0; i < moves.length; i++) {
            due.is("34: shortest(" + i + ") of " + code, x.shortest(i), moves[i]);
        }
        due.is("34: no such one", x.shortest(moves.length), NONE);
        due.is("34: no such one", x.shortest(-2), NONE);
        due.text("34: the code stays", Due.read(x), code);
    }

    /** The answer is that of the code as it is now, however like the last one it may be. */
    private static void oneAfterAnother() {
        FewerSteps x = new FewerSteps();
        String[] codes = {"a=+ab", "a=-ab", "b=-ab", "b=*ab", "a=mab", "a=*ab", "b=*ab", "a=*ab;b=*aa", "b=*aa"};
        int[] wanted = {3, 3, 3, 3, 3, 3, 1, 2, 2};
        int[] firsts = {201, 301, 1301, 1401, 501, 401, NONE, 401, 1400};
        for (int n = 0; n < codes.length; n++) {
            x.want(wanted[n]);
            Due.code(x, codes[n]);
            due.is("34: shortest(0) of " + codes[n] + " behind another code", x.shortest(0), firsts[n]);
            x.image(0);
            Due.code(x, "a=b");
            x.want(1);
            due.is("34: and of another one", x.shortest(0), 110);
            x.restore(0);
            due.is("34: and of the first again", x.shortest(0), firsts[n]);
        }
        String[] alike = {"a=+ab;b=0", "a=-ab;b=0", "a=0;b=*ab", "a=0;b=mab"};
        for (String code : alike) {
            FewerSteps fresh = Due.with(code);
            fresh.want(3);
            x.want(3);
            Due.code(x, code);
            for (int i = -1; i < 3; i++) {
                due.is("34: shortest(" + i + ") of " + code + " behind a like one", x.shortest(i), fresh.shortest(i));
            }
        }
    }

    private static void shortests() {
        shortest("", 3);
        shortest("", 1);
        shortest("a=a;b=+b0", 3);
        shortest("a=1;b=2", 1, 0, 202);
        shortest("a=b", 1, 110);
        shortest("b=a", 2, 1100);
        shortest("b=0", 3, 1000);
        shortest("b=*0a", 3, 1000);
        shortest("a=*2b", 1, 211);
        shortest("a=*ba", 1, 401);
        shortest("a=m1b", 1, 512);
        shortest("a=b;b=a", 2);
        shortest("a=-b1;b=-a1", 2, 312, 1302);
        shortest("b=a;a=+bb;b=+aa", 3, 200, 1200);
        FewerSteps x = Due.with("a=5");
        x.want(1);
        due.is("34: no three do", x.shortest(-1), NONE);
        due.is("34: no three do", x.shortest(0), NONE);
        x.want(2);
        due.is("34: another wanted one", x.shortest(-1), 0);
        x.want(4);
        due.is("34: c is wanted", x.shortest(-1), STATE);
        x.want(9);
        due.is("34: d is wanted", x.shortest(99), STATE);
        x.want(1);
        due.is("34: as it was", x.shortest(-1), NONE);
        oneAfterAnother();
        String[] others = {"a=c", "c=a", "a=+1d", "a=-d1", "d=0"};
        for (String other : others) {
            FewerSteps y = Due.with(other);
            y.want(1);
            due.is("34: state of " + other, y.shortest(-1), STATE);
        }
    }
}

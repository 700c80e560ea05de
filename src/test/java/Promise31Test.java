/** Promise 31: fits. */
public final class Promise31Test extends Promise {
    public static void main(String[] args) {
        begin(31);
        theFirstStep();
        otherNames();
        justSo();
        noRoom();
        noSuchRule();
        end();
    }

    private static void fits(String code, String rule, int want) {
        FewerSteps x = Due.with(code);
        Due.rule(x, rule);
        is("fits(0) of " + rule + " in " + code, x.fits(0), want);
    }

    private static void theFirstStep() {
        sentence("The first STEP at which a RULE FITS; NONE.");
        fits("c=d", "a=b>", 0);
        fits("c=3;d=4", "a=4>", 1);
        fits("a=b;b=c;c=d", "a=b;b=c>", 0);
        fits("a=b;b=c;d=c", "a=b;c=b>", 1);
        fits("a=b;a=1;b=2;c=3", "d=1;a=2;b=3>", 1);
        fits(TWELVE, "b=1>", 0);
        fits("a=1;".repeat(11) + "a=2", "b=2>", 11);
        fits("a=1;".repeat(10) + "a=1;a=2", "b=1;b=2>", 10);
        fits("a=1;".repeat(9) + "a=1;a=2;a=3", "b=1;b=2;b=3>", 9);
        fits(TWELVE, "a=2>", NONE);
    }

    private static void otherNames() {
        sentence("its REGISTERS being called by other names, unlike ones by unlike ones");
        fits("c=c", "a=b>", NONE);
        fits("c=d", "a=a>", NONE);
        fits("d=d", "a=a>", 0);
        fits("a=+bb", "a=+bc>", NONE);
        fits("a=+bc", "a=+bb>", NONE);
        fits("a=+ab", "a=+bc>", NONE);
        fits("a=+bc", "a=+ab>", NONE);
        fits("d=+ca", "a=+bc>", 0);
        // one name through all of its steps
        fits("a=b;b=c;c=d", "a=b;c=d>", NONE);
        fits("a=1;a=2", "a=1;b=2>", NONE);
        fits("a=1;b=2", "a=1;a=2>", NONE);
        fits("b=1;d=2", "d=1;a=2>", 0);
        fits("a=b;c=d", "d=c;b=a>", 0);
        // names of an earlier step at which it did not fit do not stay
        fits("a=b;c=1;d=c;a=2", "a=b;b=2>", NONE);
        fits("a=b;c=1;d=a;a=2", "a=b;b=2>", 2);
    }

    private static void justSo() {
        sentence("(digits, ACTS, OPERANDS in their order just so)");
        fits("c=3", "a=b>", NONE);
        fits("c=d", "a=3>", NONE);
        fits("c=4", "a=3>", NONE);
        fits("a=+b1", "a=+1b>", NONE);
        fits("a=+1b", "a=+b1>", NONE);
        fits("a=+12", "a=+21>", NONE);
        fits("a=+12", "a=3>", NONE);
        fits("a=b", "a=+bc>", NONE);
        fits("a=+bc", "a=b>", NONE);
        fits("a=1", "a=+11>", NONE);
        fits("a=+11", "a=1>", NONE);
        // the order of operands, told by a step that follows
        fits("a=+bc;b=1", "a=+bc;c=1>", NONE);
        fits("a=+bc;c=1", "a=+bc;c=1>", 0);
        for (char act : "+-*m".toCharArray()) {
            for (char other : "+-*m".toCharArray()) {
                fits("a=" + act + "bc", "a=" + other + "bc>", act == other ? 0 : NONE);
            }
        }
    }

    private static void noRoom() {
        sentence("It FITS at a STEP, if from there on STEPS stand that are LEFT's");
        fits("", "a=b>", NONE);
        fits("a=b", "a=b;c=d>", NONE);
        fits("a=b;a=1;b=2", "d=1;a=2;b=3>", NONE);
        fits("a=1;".repeat(10) + "a=1;a=2", "b=2;b=1>", NONE);
    }

    private static void noSuchRule() {
        sentence("UNKNOWN.");
        refusedBeyond(() -> Due.with("a=b"), "fits when there is none", 0, -1, FewerSteps::fits, UNKNOWN);
        for (int many = 1; many <= 4; many++) {
            int rules = many;
            refusedBeyond(() -> {
                FewerSteps x = Due.with("a=b");
                for (int n = 0; n < rules; n++) {
                    Due.rule(x, "a=b>");
                }
                return x;
            }, "fits when there are " + many, 0, many - 1, FewerSteps::fits, UNKNOWN);
        }
    }
}

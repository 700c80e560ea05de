/** Promise 32: replace. */
public final class Promise32Test extends Promise {
    public static void main(String[] args) {
        begin(32);
        atItsFirstStep();
        theseGoRightComes();
        rightAlone();
        toNothing();
        fitsNowhere();
        moreThanTwelve();
        noSuchRule();
        end();
    }

    private static FewerSteps with(String code, String... rules) {
        FewerSteps x = Due.with(code);
        for (String rule : rules) {
            Due.rule(x, rule);
        }
        return x;
    }

    private static void replace(String code, String rule, String then) {
        FewerSteps x = with(code, rule);
        is("replace(0) by " + rule + " in " + code, x.replace(0), then.isEmpty() ? 0 : then.split(";").length);
        text("the code", Due.read(x), then);
    }

    private static void atItsFirstStep() {
        sentence("It is REPLACED at its first STEP: STEPS of THE CODE then.");
        replace("a=1;a=1", "b=1>b=2;c=3", "a=2;b=3;a=1");
        replace("a=2;a=1;a=1", "b=1>b=3", "a=2;a=3;a=1");
        replace("a=1;c=c;b=2", "b=b>", "a=1;b=2");
        replace("a=1;".repeat(11) + "b=2", "c=2>c=3", "a=1;".repeat(11) + "b=3");
    }

    private static void theseGoRightComes() {
        sentence("REPLACED: these go, RIGHT's come in their place by the same names");
        replace("c=+da", "a=+bc>a=+cb", "c=+ad");
        replace("a=b;b=a;c=d", "a=b;b=a>a=b", "a=b;c=d");
        replace("b=*c2;d=b", "a=*b2;c=a>a=+bb;c=+bb", "b=+cc;d=+cc");
        replace("d=1;c=2;b=3", "a=1;b=2;c=3>c=+ab", "b=+dc");
        replace("a=b;d=4", "c=d>d=c;c=d;c=m1d", "b=a;a=b;a=m1b;d=4");
    }

    private static void rightAlone() {
        sentence("(REGISTERS of RIGHT alone, from a on, are called by the least names that are free then)");
        replace("d=c", "a=b>c=b;d=c;a=d", "a=c;b=a;d=b");
        replace("a=1;d=1;b=2", "c=1>a=3;b=4;d=5", "b=3;c=4;d=5;d=1;b=2");
        // from a on, not as they come in the text
        replace("d=1", "c=1>d=3;b=4;a=5", "c=3;b=4;a=5");
        replace("a=1", "a=1>d=3;c=4;b=5", "d=3;c=4;b=5");
        // a name that stands elsewhere in the code is free for all that
        replace("a=7;d=1;b=7", "d=1>c=2;d=c", "a=7;a=2;d=a;b=7");
        // read, and no target
        replace("b=1", "a=1>a=+cd", "b=+ac");
        replace("a=1;b=2;c=3", "d=1;c=2;b=3>a=+dc", "d=+ab");
    }

    private static void toNothing() {
        sentence("RIGHT (which may be empty)");
        replace("a=a", "b=b>", "");
        replace("a=1;b=2;c=3", "d=1;a=2;b=3>", "");
        FewerSteps x = with("a=a", "b=b>");
        x.replace(0);
        refused(x, "an empty code", () -> x.replace(0), STATE);
    }

    private static void fitsNowhere() {
        sentence("STATE: it FITS nowhere");
        FewerSteps x = with("a=1;b=2", "a=3>", "a=2;a=1>");
        refused(x, "replace(0)", () -> x.replace(0), STATE);
        refused(x, "replace(1)", () -> x.replace(1), STATE);
        FewerSteps y = with("", "a=1>");
        refused(y, "in an empty code", () -> y.replace(0), STATE);
        FewerSteps z = with(TWELVE, "a=2>a=1;a=1;a=1");
        refused(z, "in a code of twelve", () -> z.replace(0), STATE);
    }

    private static void moreThanTwelve() {
        sentence("FULL: more than 12 STEPS would be there.");
        String eleven = "b=2;".repeat(10) + "a=1";
        replace(eleven, "a=1>c=1;a=c", "b=2;".repeat(10) + "b=1;a=b");
        FewerSteps x = with(eleven, "a=1>a=1;a=1;a=1");
        refused(x, "thirteen", () -> x.replace(0), FULL);
        text("the code stays", Due.read(x), eleven);
        FewerSteps y = with(TWELVE, "a=1>a=1;a=1", "a=1;b=1>a=2;b=2;a=2", "a=1;a=1>a=1;a=1;a=1", "a=1>a=5");
        refused(y, "one more than twelve", () -> y.replace(0), FULL);
        refused(y, "it fits nowhere, and would be too long", () -> y.replace(1), STATE);
        refused(y, "three for two", () -> y.replace(2), FULL);
        is("one for one", y.replace(3), 12);
        text("the code", Due.read(y), "a=5" + ";a=1".repeat(11));
        replace("a=1;".repeat(9) + "b=2", "b=2>b=1;b=1;b=1", "a=1;".repeat(9) + "b=1;b=1;b=1");
    }

    private static void noSuchRule() {
        sentence("UNKNOWN");
        refusedBeyond(() -> Due.with("a=b"), "replace when there is none", 0, -1, FewerSteps::replace, UNKNOWN);
        for (int many = 1; many <= 4; many++) {
            int rules = many;
            refusedBeyond(() -> {
                FewerSteps x = Due.with("a=b");
                for (int n = 0; n < rules; n++) {
                    Due.rule(x, "a=b>a=1");
                }
                return x;
            }, "replace when there are " + many, 0, many - 1, FewerSteps::replace, UNKNOWN);
        }
    }
}

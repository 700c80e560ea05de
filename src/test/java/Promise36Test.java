/** Promise 36: restore. */
public final class Promise36Test extends Promise {
    public static void main(String[] args) {
        begin(36);
        asItWas();
        againAndAgain();
        wasNotKept();
        refusesOther();
        firstThatFits();
        end();
    }

    private static FewerSteps kept() {
        FewerSteps x = Due.with("a=+b1;b=c", 5);
        x.keep();
        Due.code(x, "a=b;b=c");
        x.set(0, 3);
        x.set(1, 2);
        x.set(2, 3);
        x.set(3, 4);
        x.set(4, 5);
        Due.rule(x, "a=b>b=a");
        x.image(1);
        return x;
    }

    private static void changeAll(FewerSteps x) {
        Due.code(x, "d=d");
        x.keep();
        x.want(8);
        for (int which = 0; which <= 4; which++) {
            x.set(which, 1);
        }
        x.free();
        Due.rule(x, "c=1>c=2;c=3");
        Due.rule(x, "c=1>");
    }

    private static void asItWas() {
        sentence("It is as it was when it was kept: 1.");
        FewerSteps x = kept();
        String before = Due.state(x);
        changeAll(x);
        is("restore(1)", x.restore(1), 1);
        text("the state", Due.state(x), before);
        int[] then = {2, 0, 5, 1, 3, 2, 3, 4, 5, 2};
        for (int what = 0; what < then.length; what++) {
            is("told(" + what + ")", x.told(what), then[what]);
        }
        // a=+b1 and a=b are unlike from the first row on
        is("the other one", x.unlike(), 0);
        is("the rule", x.replace(0), 2);
        text("the rule's right side", Due.read(x), "b=a;b=c");
        FewerSteps y = new FewerSteps();
        y.image(0);
        changeAll(y);
        is("restore(0) to what it was at first", y.restore(0), 1);
        text("the state", Due.state(y), Due.state(new FewerSteps()));
    }

    private static void againAndAgain() {
        sentence("It is as it was when it was kept: 1.");
        FewerSteps x = kept();
        String before = Due.state(x);
        x.replace(0);
        x.free();
        x.clean();
        is("restore(1)", x.restore(1), 1);
        text("the state", Due.state(x), before);
        x.go();
        x.mend(4);
        x.want(1);
        x.set(0, 1);
        is("restore(1) once more", x.restore(1), 1);
        text("what came later does not change it", Due.state(x), before);
        is("restore(1) without a change", x.restore(1), 1);
        text("the state", Due.state(x), before);
    }

    private static void wasNotKept() {
        sentence("STATE: it was not.");
        FewerSteps x = Due.with("a=b");
        refused(x, "restore(0)", () -> x.restore(0), STATE);
        refused(x, "restore(1)", () -> x.restore(1), STATE);
        FewerSteps y = kept();
        refused(y, "the one that was not", () -> y.restore(0), STATE);
        is("the one that was", y.restore(1), 1);
        is("the one that was not, behind that", y.restore(0), STATE);
    }

    private static void refusesOther() {
        sentence("OUTSIDE");
        refusedBeyond(() -> {
            FewerSteps x = kept();
            x.want(2);
            return x;
        }, "restore", 0, 1, FewerSteps::restore, OUTSIDE);
    }

    private static void firstThatFits() {
        sentence("Calls that are refused answer, the first of these that fits");
        refusedBeyond(FewerSteps::new, "restore when none was kept", 0, 1, FewerSteps::restore, OUTSIDE);
    }
}

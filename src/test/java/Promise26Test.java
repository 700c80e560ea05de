/** Promise 26: fewest. */
public final class Promise26Test extends Promise {
    public static void main(String[] args) {
        begin(26);
        widthAndOrder();
        behindThoseWhoseValuesTheyRead();
        firstByNumbers();
        noneBeyondTheOrder();
        eightStepsAtMost();
        stateComesFirst();
        end();
    }

    private static void fewest(String code, int wanted, int width, int... order) {
        FewerSteps x = Due.with(code, wanted);
        is("fewest(-1) of " + code, x.fewest(-1), width);
        for (int i = 0; i < order.length; i++) {
            is("fewest(" + i + ") of " + code, x.fewest(i), order[i]);
        }
        is("fewest(" + order.length + ") of " + code, x.fewest(order.length), NONE);
        text("the code stays", Due.read(x), code);
    }

    private static void widthAndOrder() {
        sentence("FEWEST: the WIDTH (i = -1), the i-th STEP of the ORDER; NONE.");
        fewest("a=1;b=2;c=3;d=+ab;d=+dc", 8, 2, 0, 1, 3, 2, 4);
        fewest("a=1;b=2;c=a;d=b;a=+cd", 1, 2, 0, 1, 2, 3, 4);
        fewest("a=1", 1, 1, 0);
        fewest("a=1", 2, 2, 0);
        for (int wanted = 1; wanted <= 15; wanted++) {
            fewest("", wanted, Integer.bitCount(wanted));
        }
        // a value that nobody needs is held just behind its step: best where little else is
        fewest("a=1;b=2;c=3;d=+ab", 8, 2, 0, 1, 3, 2);
        fewest("a=+ab;c=1", 1, 2, 0, 1);
        // what was held in the code before does not count
        FewerSteps x = Due.with("a=1;b=2;c=3;d=4");
        x.fewest(-1);
        x.want(1);
        Due.code(x, "a=1;a=2");
        is("behind a wider code", x.fewest(-1), 1);
        Due.code(x, "a=1");
        is("and behind that", x.fewest(-1), 1);
        fewest("c=1;a=+ab", 1, 2, 1, 0);
    }

    private static void behindThoseWhoseValuesTheyRead() {
        sentence("the least WIDTH over all ORDERS in which STEPS stand behind those whose VALUES they read");
        // a=1 goes ahead of two that read what was in a before
        fewest("b=+a1;c=+a2;a=1;d=2;d=+ad;b=+bd;b=+bc", 2, 3, 2, 3, 4, 0, 1, 5, 6);
        fewest("a=1;b=a;a=2;c=a;d=+bc", 8, 2, 0, 1, 2, 3, 4);
    }

    private static void firstByNumbers() {
        sentence("of several the first ORDER by numbers");
        fewest("a=1;a=2", 1, 1, 0, 1);
        fewest("a=1;b=2;a=b", 1, 1, 0, 1, 2);
        fewest("a=1;b=2;c=3;d=4", 15, 4, 0, 1, 2, 3);
        fewest("d=+ab;a=0;b=d", 2, 2, 0, 1, 2);
        fewest(EIGHT, 1, 1, 0, 1, 2, 3, 4, 5, 6, 7);
    }

    private static void noneBeyondTheOrder() {
        sentence("FEWEST: the WIDTH (i = -1), the i-th STEP of the ORDER; NONE.");
        refusedBeyond(() -> Due.with("a=1;b=2"), "fewest of two", -1, 1, FewerSteps::fewest, NONE);
        refusedBeyond(() -> Due.with(EIGHT), "fewest of eight", -1, 7, FewerSteps::fewest, NONE);
        refusedBeyond(FewerSteps::new, "fewest of an empty code", -1, -1, FewerSteps::fewest, NONE);
    }

    private static void eightStepsAtMost() {
        sentence("of a CODE of 8 STEPS at most");
        is("eight", Due.with(EIGHT, 1).fewest(-1), 1);
        is("eight with all wanted", Due.with("a=1;b=2;c=3;d=4;a=5;b=6;c=7;d=0").fewest(-1), 4);
        sentence("STATE: more than 8 STEPS.");
        FewerSteps x = Due.with(NINE);
        refused(x, "fewest(-1) of nine", () -> x.fewest(-1), STATE);
        FewerSteps y = Due.with(NINE);
        refused(y, "fewest(0) of nine", () -> y.fewest(0), STATE);
        is("of twelve", Due.with(TWELVE).fewest(-1), STATE);
        is("width() of nine", Due.with(NINE, 1).width(), 1);
    }

    private static void stateComesFirst() {
        sentence("Calls that are refused answer, the first of these that fits");
        refusedBeyond(() -> Due.with(NINE), "fewest of nine", -1, 8, FewerSteps::fewest, STATE);
    }
}

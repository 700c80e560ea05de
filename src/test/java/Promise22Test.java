/** Promise 22: quickest. */
public final class Promise22Test extends Promise {
    public static void main(String[] args) {
        begin(22);
        timeAndOrder();
        overAllOrders();
        firstByNumbers();
        noneBeyondTheOrder();
        eightStepsAtMost();
        stateComesFirst();
        end();
    }

    private static void quickest(String code, int[] settings, int time, int... order) {
        FewerSteps x = Due.with(code);
        for (int which = 0; which < settings.length; which++) {
            x.set(which, settings[which]);
        }
        is("quickest(-1) of " + code, x.quickest(-1), time);
        for (int i = 0; i < order.length; i++) {
            is("quickest(" + i + ") of " + code, x.quickest(i), order[i]);
        }
        is("quickest(" + order.length + ") of " + code, x.quickest(order.length), NONE);
        text("the code stays", Due.read(x), code);
    }

    private static void timeAndOrder() {
        sentence("QUICKEST: TIME (i = -1), the i-th STEP of the ORDER; NONE.");
        quickest("a=*aa;a=+a1;b=*bb;b=+b1", new int[] {1, 1, 1, 4, 1}, 6, 0, 2, 1, 3);
        quickest("a=1;b=*bb", new int[] {1, 1, 1, 5, 1}, 5, 1, 0);
        quickest("b=a;a=*cc;d=1", new int[] {1, 1, 1, 5, 1}, 6, 0, 1, 2);
        quickest("a=a", new int[] {1}, 1, 0);
        quickest("", new int[] {2}, 0);
        quickest("d=1;c=2;b=3;a=*aa", new int[] {1, 1, 1, 5, 1}, 5, 3, 0, 1, 2);
    }

    private static void overAllOrders() {
        sentence("QUICKEST: the least TIME over all ORDERS of a CODE of 8 STEPS at most");
        // four chains of two: that of m takes 10 ticks, and the others must end by then
        quickest("a=+aa;a=+a1;b=-bb;b=-b1;c=*cc;c=*c1;d=mdd;d=md1", new int[] {1, 2, 3, 4, 5}, 10, 6, 0, 4, 1, 2, 7, 5, 3);
        // a step that must stand behind another does, however long that takes
        quickest("b=*aa;a=*bb;c=1;d=2", new int[] {2, 1, 1, 5, 1}, 10, 0, 1, 2, 3);
        quickest(EIGHT, new int[] {3}, 8, 0, 1, 2, 3, 4, 5, 6, 7);
    }

    private static void firstByNumbers() {
        sentence("of several the first ORDER by numbers");
        quickest("a=1;b=2;c=3;d=4", new int[] {1}, 4, 0, 1, 2, 3);
        quickest("a=1;b=*bb", new int[] {2, 1, 1, 5, 1}, 5, 0, 1);
        quickest("a=1;a=1;b=1;b=1", new int[] {2}, 2, 0, 2, 1, 3);
        // three in each tick: a b, a c d, b c d
        quickest("a=1;a=1;b=1;b=1;c=1;c=1;d=1;d=1", new int[] {3}, 3, 0, 2, 1, 4, 6, 3, 5, 7);
    }

    private static void noneBeyondTheOrder() {
        sentence("QUICKEST: TIME (i = -1), the i-th STEP of the ORDER; NONE.");
        refusedBeyond(() -> Due.with("a=1;b=2"), "quickest of two", -1, 1, FewerSteps::quickest, NONE);
        refusedBeyond(() -> Due.with(EIGHT), "quickest of eight", -1, 7, FewerSteps::quickest, NONE);
        refusedBeyond(FewerSteps::new, "quickest of an empty code", -1, -1, FewerSteps::quickest, NONE);
    }

    private static void eightStepsAtMost() {
        sentence("STATE: more than 8 STEPS.");
        quickest(EIGHT, new int[] {3, 5, 5, 5, 5}, 8, 0, 1, 2, 3, 4, 5, 6, 7);
        FewerSteps x = Due.with(NINE);
        refused(x, "quickest(-1) of nine", () -> x.quickest(-1), STATE);
        FewerSteps y = Due.with(NINE);
        refused(y, "quickest(0) of nine", () -> y.quickest(0), STATE);
        is("of twelve", Due.with(TWELVE).quickest(-1), STATE);
        is("time() of nine", Due.with(NINE).time(), 9);
    }

    private static void stateComesFirst() {
        sentence("Calls that are refused answer, the first of these that fits");
        refusedBeyond(() -> Due.with(NINE), "quickest of nine", -1, 8, FewerSteps::quickest, STATE);
    }
}

/** Promise 20: tick. */
public final class Promise20Test extends Promise {
    private static final int[] ONE = {1, 1, 1, 1, 1};
    private static final int[] TWO = {2, 1, 1, 1, 1};
    private static final int[] THREE = {3, 1, 1, 1, 1};

    public static void main(String[] args) {
        begin(20);
        from0On();
        noEarlierThanTheStepAhead();
        aUnitFree();
        allThatItReadsCanBeRead();
        behindStepsThatReadOrHaveItsTarget();
        copiesAndDigits();
        asTheCodeStands();
        noSuchStep();
        end();
    }

    private static void ticks(String code, int[] settings, int... ticks) {
        FewerSteps x = Due.with(code);
        for (int which = 0; which < settings.length; which++) {
            x.set(which, settings[which]);
        }
        for (int i = 0; i < ticks.length; i++) {
            is("tick(" + i + ") of " + code, x.tick(i), ticks[i]);
        }
        is("no such step", x.tick(ticks.length), UNKNOWN);
    }

    private static void from0On() {
        sentence("In an ORDER each STEP begins in the first TICK (from 0 on)");
        ticks("a=*aa", new int[] {1, 5, 5, 5, 5}, 0);
        ticks("a=1", THREE, 0);
        ticks(TWELVE, ONE, 0, 1, 2, 3, 4, 5, 6, 7, 8, 9, 10, 11);
        ticks("a=+aa;".repeat(11) + "a=+aa", new int[] {3, 5, 1, 1, 1}, 0, 5, 10, 15, 20, 25, 30, 35, 40, 45, 50, 55);
    }

    private static void noEarlierThanTheStepAhead() {
        sentence("that is no earlier than that of the STEP ahead of it in the ORDER");
        ticks("a=*aa;b=a;c=1", new int[] {2, 1, 1, 4, 1}, 0, 4, 4);
        ticks("a=*aa;b=a;c=1;d=2", new int[] {3, 1, 1, 5, 1}, 0, 5, 5, 5);
    }

    private static void aUnitFree() {
        sentence("with a UNIT free");
        ticks("a=1;b=2;c=3;d=4", ONE, 0, 1, 2, 3);
        ticks("a=1;b=2;c=3;d=4", TWO, 0, 0, 1, 1);
        ticks("a=1;b=2;c=3;d=4", THREE, 0, 0, 0, 1);
        sentence("so many STEPS may begin in one TICK");
        // units of a tick that was left are not counted in the next
        ticks("a=1;b=2;b=3;c=4;d=5", TWO, 0, 0, 1, 1, 2);
        ticks("a=1;a=2;b=3;c=4;d=5", THREE, 0, 1, 1, 1, 2);
        ticks("a=*aa;b=a;c=1;d=2", new int[] {2, 1, 1, 5, 1}, 0, 5, 5, 6);
    }

    private static void allThatItReadsCanBeRead() {
        sentence("what is made can be read so many TICKS behind the one in which the STEP begins");
        for (int delay = 1; delay <= 5; delay++) {
            ticks("a=+aa;b=a", new int[] {3, delay, 1, 1, 1}, 0, delay);
            ticks("a=-aa;b=+1a", new int[] {3, 1, delay, 1, 1}, 0, delay);
            ticks("a=*aa;b=+a1", new int[] {3, 1, 1, delay, 1}, 0, delay);
            ticks("a=maa;a=a", new int[] {3, 1, 1, 1, delay}, 0, delay);
            ticks("a=+aa;b=-bb;c=mab", new int[] {2, delay, 3, 1, 1}, 0, 0, Math.max(delay, 3));
        }
        sentence("in which all that it reads can be read");
        // of two that a step reads the later one
        ticks("a=*aa;b=1;c=+ab", new int[] {1, 1, 1, 2, 1}, 0, 1, 2);
        // what it reads was there at first
        ticks("b=a;c=a;d=a", THREE, 0, 0, 0);
    }

    private static void behindStepsThatReadOrHaveItsTarget() {
        sentence("and behind the TICKS of STEPS that read or have its TARGET ahead of it (where it must stand behind them)");
        ticks("b=a;a=1", THREE, 0, 1);
        ticks("a=1;a=2", THREE, 0, 1);
        ticks("a=b;b=c;c=d", THREE, 0, 1, 2);
        ticks("b=a;c=a;a=1", TWO, 0, 0, 1);
        // its tick alone counts, not when it can be read
        ticks("a=*bb;a=1", new int[] {2, 1, 1, 5, 1}, 0, 1);
        ticks("a=*bb;b=1;b=2", new int[] {3, 1, 1, 5, 1}, 0, 1, 2);
    }

    private static void copiesAndDigits() {
        sentence("of copies and digits 1");
        ticks("a=b;c=a", new int[] {2, 5, 5, 5, 5}, 0, 1);
        ticks("a=7;c=a", new int[] {2, 5, 5, 5, 5}, 0, 1);
    }

    private static void asTheCodeStands() {
        sentence("The TICK in which a STEP begins, as THE CODE stands.");
        // another order would let the second one begin at first
        FewerSteps x = Due.with("b=1;a=*aa");
        x.set(3, 5);
        is("tick(1)", x.tick(1), 1);
        is("the quickest order's first", x.quickest(0), 1);
        is("tick(0) behind that", x.tick(0), 0);
        is("tick(1) behind that", x.tick(1), 1);
    }

    private static void noSuchStep() {
        sentence("UNKNOWN.");
        refusedBeyond(FewerSteps::new, "tick in an empty code", 0, -1, FewerSteps::tick, UNKNOWN);
        refusedBeyond(() -> Due.with("a=b;b=c"), "tick in two", 0, 1, FewerSteps::tick, UNKNOWN);
        refusedBeyond(() -> Due.with(TWELVE), "tick in twelve", 0, 11, FewerSteps::tick, UNKNOWN);
    }
}

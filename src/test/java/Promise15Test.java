/** Promise 15: mend. */
public final class Promise15Test extends Promise {
    public static void main(String[] args) {
        begin(15);
        knownBecomeDigits();
        digitsAreWorkedOut();
        needlessBecomeCopies();
        deadOnesGo();
        byFactsAheadOfIt();
        emptyCode();
        refusesOther();
        end();
    }

    private static void mend(String from, int wanted, int which, int many, String to) {
        FewerSteps x = Due.with(from, wanted);
        is("mend(" + which + ") of " + from, x.mend(which), many);
        text("mend(" + which + ") of " + from, Due.read(x), to);
    }

    private static void knownBecomeDigits() {
        sentence("1 REGISTERS as OPERANDS that are KNOWN become digits");
        mend("a=3;b=+aa;c=a;d=-da;a=0;b=+ab", 15, 1, 4, "a=3;b=+33;c=3;d=-d3;a=0;b=+06");
        mend("a=7;b=-ca;c=-ac", 15, 1, 2, "a=7;b=-c7;c=-7c");
        mend("a=0;b=a", 15, 1, 1, "a=0;b=0");
        mend("a=0;a=+aa", 15, 1, 1, "a=0;a=+00");
        mend("a=a;b=+a1;c=1", 15, 1, 0, "a=a;b=+a1;c=1");
        mend("a=*b0;c=a", 15, 1, 0, "a=*b0;c=a");
    }

    private static void digitsAreWorkedOut() {
        sentence("2 an ACT on two digits becomes a digit");
        mend("a=+35;b=-35;c=*35;d=m35;a=+a3;b=3", 15, 2, 4, "a=0;b=6;c=7;d=3;a=+a3;b=3");
        mend("a=+71;b=-07;c=*77;d=m70", 15, 2, 4, "a=0;b=1;c=1;d=0");
        mend("a=3;b=+ca", 15, 2, 0, "a=3;b=+ca");
        mend("a=+a1;b=+1a;c=1;d=-aa", 15, 2, 0, "a=+a1;b=+1a;c=1;d=-aa");
        FewerSteps x = Due.with("a=+35");
        x.mend(2);
        is("no act is left", x.step(0, 1), NONE);
        is("nor a second operand", x.step(0, 3), NONE);
    }

    private static void needlessBecomeCopies() {
        sentence("3 a STEP that is NEEDLESS, and no copy (of one OPERAND) yet, becomes a copy of the least such REGISTER");
        mend("a=+bc;d=+cb;d=a;c=+bc", 15, 3, 2, "a=+bc;d=a;d=a;c=a");
        mend("a=+bc;d=+cb;a=0;c=+bc", 15, 3, 2, "a=+bc;d=a;a=0;c=d");
        mend("a=+bc;a=+cb", 15, 3, 1, "a=+bc;a=a");
        mend("d=+ab;c=+ab;a=+ab", 15, 3, 2, "d=+ab;c=d;a=c");
        mend("d=+ab;a=0;c=+ab", 15, 3, 0, "d=+ab;a=0;c=+ab");
        mend("a=1;b=1", 15, 3, 0, "a=1;b=1");
        mend("a=b;b=a;c=c", 15, 3, 0, "a=b;b=a;c=c");
        mend("a=-bc;d=-cb", 15, 3, 0, "a=-bc;d=-cb");
        mend("a=+12;b=+12", 15, 3, 1, "a=+12;b=a");
        FewerSteps x = Due.with("a=+bc;d=+bc");
        x.mend(3);
        is("no act is left", x.step(1, 1), NONE);
        is("nor a second operand", x.step(1, 3), NONE);
    }

    private static void deadOnesGo() {
        sentence("4 DEAD STEPS go, and copies of a REGISTER to itself");
        mend("a=b;c=a;d=d;b=b", 10, 4, 3, "a=b");
        mend("a=a", 1, 4, 1, "");
        mend("a=a", 2, 4, 1, "");
        mend("a=+a0", 1, 4, 0, "a=+a0");
        mend("a=b;b=b;c=1", 15, 4, 1, "a=b;c=1");
        mend("a=1;a=2;a=3", 1, 4, 2, "a=3");
        mend(TWELVE, 2, 4, 12, "");
        mend("a=*a2;b=-13;b=mca", 2, 4, 1, "a=*a2;b=mca");
    }

    private static void byFactsAheadOfIt() {
        sentence("each for all STEPS from the first on (by facts of the CODE as it is ahead of that one of the four)");
        // a is read by a step that goes, so its own step stays this time
        mend("a=b;c=a", 10, 4, 1, "a=b");
        mend("a=+a1;a=+a1", 2, 4, 1, "a=+a1");
        // a=a goes, but ahead of that it reads a
        mend("a=1;a=a", 2, 4, 1, "a=1");
        // what is worked out in one step is not written into the next
        mend("a=+12;b=+a0", 15, 2, 1, "a=3;b=+a0");
    }

    private static void emptyCode() {
        sentence("One of the four mendings (1 to 4) of THE CODE, for all STEPS: how many were changed, or went.");
        for (int which = 1; which <= 4; which++) {
            is("mend(" + which + ") of an empty code", new FewerSteps().mend(which), 0);
        }
        mend("a=3;b=+aa", 15, 1, 1, "a=3;b=+33");
        mend("a=1;" + "a=+aa;".repeat(10) + "a=+aa", 15, 1, 11, "a=1;a=+11;a=+22;a=+44" + ";a=+00".repeat(8));
        mend("a=+12;".repeat(11) + "a=+12", 15, 2, 12, "a=3;".repeat(11) + "a=3");
    }

    private static void refusesOther() {
        sentence("OUTSIDE.");
        refusedBeyond(() -> Due.with("a=a;b=+12;c=b"), "mend", 1, 4, FewerSteps::mend, OUTSIDE);
        refusedBeyond(FewerSteps::new, "mend of an empty code", 1, 4, FewerSteps::mend, OUTSIDE);
    }
}

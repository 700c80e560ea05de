/** Promise 7: step. */
public final class Promise07Test extends Promise {
    public static void main(String[] args) {
        begin(7);
        partsOfSteps();
        registersAndDigits();
        registersFromAToD();
        numberedFrom0();
        noSuchStep();
        otherParts();
        firstThatFits();
        end();
    }

    private static void partsOfSteps() {
        sentence("Of a STEP: 0 its TARGET, 1 its ACT (the sign; NONE), 2, 3 its OPERANDS (REGISTERS 0 to 3, digits 10 to 17; NONE).");
        FewerSteps x = Due.with("a=b;c=*d2;d=7;b=m0a;a=-bb;b=+31");
        int[][] parts = {{0, NONE, 1, NONE}, {2, '*', 3, 12}, {3, NONE, 17, NONE}, {1, 'm', 10, 0}, {0, '-', 1, 1}, {1, '+', 13, 11}};
        for (int i = 0; i < parts.length; i++) {
            for (int what = 0; what < 4; what++) {
                is("step(" + i + ", " + what + ")", x.step(i, what), parts[i][what]);
            }
        }
    }

    private static void registersAndDigits() {
        sentence("Of a STEP: 0 its TARGET, 1 its ACT (the sign; NONE), 2, 3 its OPERANDS (REGISTERS 0 to 3, digits 10 to 17; NONE).");
        for (int n = 0; n < 12; n++) {
            char sign = (char) (n < 4 ? 'a' + n : '0' + n - 4);
            int operand = n < 4 ? n : 10 + n - 4;
            is("a copy of " + sign, Due.with("a=" + sign).step(0, 2), operand);
            is("a copy's second one", Due.with("a=" + sign).step(0, 3), NONE);
            is("a first one " + sign, Due.with("a=-" + sign + "b").step(0, 2), operand);
            is("a second one " + sign, Due.with("a=-b" + sign).step(0, 3), operand);
            if (n < 4) {
                is("a target " + sign, Due.with(sign + "=1").step(0, 0), n);
            }
        }
    }

    private static void registersFromAToD() {
        sentence("REGISTERS 0 to 3 (a to d)");
        FewerSteps x = Due.with("a=d;b=c;c=b;d=a");
        for (int i = 0; i < 4; i++) {
            is("a target", x.step(i, 0), i);
            is("an operand", x.step(i, 2), 3 - i);
        }
    }

    private static void numberedFrom0() {
        sentence("STEPS are numbered from 0 on");
        FewerSteps x = Due.with("a=0;b=1;c=2;d=3;a=4;b=5;c=6;d=7;a=a;b=b;c=c;d=d");
        for (int i = 0; i < 12; i++) {
            is("step(" + i + ", 0)", x.step(i, 0), i % 4);
            is("step(" + i + ", 2)", x.step(i, 2), i < 8 ? 10 + i : i - 8);
        }
    }

    private static void noSuchStep() {
        sentence("UNKNOWN; OUTSIDE.");
        refusedBeyond(FewerSteps::new, "step of an empty code", 0, -1, (x, i) -> x.step(i, 0), UNKNOWN);
        refusedBeyond(() -> Due.with("a=b;b=c"), "step of two", 0, 1, (x, i) -> x.step(i, 3), UNKNOWN);
        refusedBeyond(() -> Due.with(TWELVE), "step of twelve", 0, 11, (x, i) -> x.step(i, 2), UNKNOWN);
        FewerSteps x = Due.with("a=a;b=1");
        x.mend(4);
        is("the first one that is left", x.step(0, 0), 1);
        is("a step that went", x.step(1, 0), UNKNOWN);
    }

    private static void otherParts() {
        sentence("UNKNOWN; OUTSIDE.");
        refusedBeyond(() -> Due.with("a=b;b=c"), "what of a step", 0, 3, (x, what) -> x.step(1, what), OUTSIDE);
    }

    private static void firstThatFits() {
        sentence("Calls that are refused answer, the first of these that fits");
        FewerSteps x = Due.with("a=b");
        refused(x, "step(1, 4)", () -> x.step(1, 4), UNKNOWN);
        refused(x, "step(-1, -1)", () -> x.step(-1, -1), UNKNOWN);
        is("an empty code's", new FewerSteps().step(0, 9), UNKNOWN);
    }
}

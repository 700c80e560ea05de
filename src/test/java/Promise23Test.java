/** Promise 23: reads. */
public final class Promise23Test extends Promise {
    public static void main(String[] args) {
        begin(23);
        valuesOfOperands();
        firstAndSecondOperand();
        digitsAndMissingOnes();
        noSuchStep();
        otherOperands();
        firstThatFits();
        end();
    }

    private static void reads(String code, int[]... values) {
        FewerSteps x = Due.with(code);
        for (int i = 0; i < values.length; i++) {
            for (int k = 0; k < 2; k++) {
                is("reads(" + i + ", " + k + ") of " + code, x.reads(i, k), values[i][k]);
            }
        }
    }

    private static void valuesOfOperands() {
        sentence("VALUES: 0 to 3 what was in a to d, 4 and on what STEPS make.");
        reads("a=+ab;b=a;a=3;c=-2b;d=*aa", new int[][] {{0, 1}, {4, NONE}, {NONE, NONE}, {NONE, 5}, {6, 6}});
        reads("a=-cd;a=-dc;a=+aa;a=a", new int[][] {{2, 3}, {3, 2}, {5, 5}, {6, NONE}});
        // a copy makes a value of its own
        reads("a=b;c=a;d=b", new int[][] {{1, NONE}, {4, NONE}, {1, NONE}});
        FewerSteps x = Due.with("a=+aa;".repeat(11) + "a=+aa");
        is("the first of twelve", x.reads(0, 0), 0);
        is("the last of twelve", x.reads(11, 1), 14);
    }

    private static void firstAndSecondOperand() {
        sentence("The VALUE that a STEP reads as its first, second OPERAND (k = 0, 1)");
        reads("a=+cd;b=+dc;c=+ab;d=+ca", new int[][] {{2, 3}, {3, 2}, {4, 5}, {6, 4}});
        reads("a=+aa", new int[][] {{0, 0}});
    }

    private static void digitsAndMissingOnes() {
        sentence("NONE: it is a digit, or there is none.");
        reads("a=0;b=7;a=-0b;b=-a7;c=d", new int[][] {{NONE, NONE}, {NONE, NONE}, {NONE, 5}, {6, NONE}, {3, NONE}});
        reads("a=+12", new int[][] {{NONE, NONE}});
    }

    private static void noSuchStep() {
        sentence("UNKNOWN; OUTSIDE.");
        refusedBeyond(FewerSteps::new, "reads in an empty code", 0, -1, (x, i) -> x.reads(i, 0), UNKNOWN);
        refusedBeyond(() -> Due.with("a=b;b=c"), "reads in two", 0, 1, (x, i) -> x.reads(i, 1), UNKNOWN);
        refusedBeyond(() -> Due.with(TWELVE), "reads in twelve", 0, 11, (x, i) -> x.reads(i, 0), UNKNOWN);
    }

    private static void otherOperands() {
        sentence("UNKNOWN; OUTSIDE.");
        refusedBeyond(() -> Due.with("a=b;b=+cd"), "reads of an operand", 0, 1, (x, k) -> x.reads(1, k), OUTSIDE);
        refusedBeyond(() -> Due.with(TWELVE), "reads of a last one's operand", 0, 1, (x, k) -> x.reads(11, k), OUTSIDE);
    }

    private static void firstThatFits() {
        sentence("Calls that are refused answer, the first of these that fits");
        FewerSteps x = Due.with("a=b");
        refused(x, "reads(1, 2)", () -> x.reads(1, 2), UNKNOWN);
        refused(x, "reads(-1, -1)", () -> x.reads(-1, -1), UNKNOWN);
    }
}

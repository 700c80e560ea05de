/** Promise 27: spill. */
public final class Promise27Test extends Promise {
    public static void main(String[] args) {
        begin(27);
        theFewestValues();
        theLeastReadings();
        theLeastAsBits();
        bitsOfValues();
        nothingToPutBy();
        places1To8();
        end();
    }

    private static void spill(String code, int wanted, int k, int want) {
        is("spill(" + k + ") of " + code + " wanted " + wanted, Due.with(code, wanted).spill(k), want);
    }

    private static void theFewestValues() {
        sentence("the fewest VALUES without which no more than k are HELD at once, as the CODE stands");
        spill("c=+ab;d=+ca", 8, 1, 1);
        // one with two readings, not two with none
        spill("b=1;c=2;d=+aa", 8, 1, 1);
        spill("c=+ab;d=*ca;c=-bd;a=+cd;b=7", 15, 1, 466);
        spill("c=+ab;d=*ca;c=-bd;a=+cd;b=7", 15, 2, 400);
        spill("c=+ab;d=*ca;c=-bd;a=+cd;b=7", 15, 3, 128);
        spill("c=+ab;d=*ca;c=-bd;a=+cd;b=7", 1, 1, 210);
        // as it stands: another order would hold fewer
        spill("a=1;b=2;c=3;d=+ab;d=+dc", 8, 2, 16);
        // the twelfth step's value is the one to keep
        spill(TWELVE, 15, 1, 14);
        spill("a=+ab;a=+ac;a=+ad", 1, 3, 1);
    }

    private static void theLeastReadings() {
        sentence("of several the least readings of them together");
        // 0 is read twice, 1 once, 4 to 6 never
        spill("c=a;d=a;c=b", 12, 2, 16);
        spill("c=a;d=a;c=b", 12, 1, 2 + 16 + 32);
        // a is read twice by one step
        spill("c=+aa;d=b", 12, 1, 2 + 16);
        spill("c=+ab;c=+ca;c=b", 12, 2, 8 + 16);
        // readings in the code before do not count
        FewerSteps x = Due.with("b=+aa;b=+aa;b=+aa");
        x.spill(1);
        x.want(3);
        Due.code(x, "b=b");
        is("a and b of b=b", x.spill(1), 1);
    }

    private static void theLeastAsBits() {
        sentence("then the least as bits");
        spill("", 15, 3, 1);
        spill("", 15, 2, 3);
        spill("", 15, 1, 7);
        spill("", 10, 1, 2);
        spill("a=1;b=2;c=3;d=4", 15, 3, 16);
        spill("a=1;b=2;c=3;d=4", 15, 1, 16 + 32 + 64);
    }

    private static void bitsOfValues() {
        sentence("PUT BY, as bits of VALUES.");
        // 4 and on are what steps make; the last of twelve is 15
        spill("a=1;b=2;c=+ab;d=+ac", 8, 1, 16);
        spill("a=1;".repeat(10) + "a=1;b=2", 3, 1, 1 << 14);
        spill("a=1;".repeat(9) + "a=1;b=2;a=+ab", 3, 1, 1 << 14);
        spill("a=1;".repeat(9) + "a=1;b=a;c=b", 7, 2, 1 << 15);
        FewerSteps x = Due.with("c=+ab", 4);
        x.spill(1);
        text("the code stays", Due.read(x), "c=+ab");
    }

    private static void nothingToPutBy() {
        sentence("the fewest VALUES without which no more than k are HELD at once, as the CODE stands");
        for (int k = 4; k <= 8; k++) {
            spill("", 15, k, 0);
            spill("a=+ab;a=+ac;a=+ad", 15, k, 0);
            spill("a=1;b=2;c=3;d=4", 15, k, 0);
        }
        spill("a=1", 1, 1, 0);
        spill(TWELVE, 1, 1, 0);
        spill("a=1;b=2;c=+ab", 4, 2, 0);
    }

    private static void places1To8() {
        sentence("PUT BY for k places (1 to 8)");
        is("the least", Due.with("a=+ab", 1).spill(1), 1);
        is("the most", Due.with("a=+ab", 1).spill(8), 0);
        sentence("OUTSIDE.");
        refusedBeyond(FewerSteps::new, "spill of an empty code", 1, 8, FewerSteps::spill, OUTSIDE);
        refusedBeyond(() -> Due.with(TWELVE), "spill of twelve", 1, 8, FewerSteps::spill, OUTSIDE);
    }
}

/** Promise 24: held. */
public final class Promise24Test extends Promise {
    public static void main(String[] args) {
        begin(24);
        tillTheLastReading();
        tillTheEndIfWanted();
        neverReadNorWanted();
        ofTheFirstFourNotAtAll();
        bits0To15();
        noSuchPlace();
        end();
    }

    private static void held(String code, int wanted, int... bits) {
        FewerSteps x = Due.with(code, wanted);
        for (int place = 0; place < bits.length; place++) {
            is("held(" + place + ") of " + code + " wanted " + wanted, x.held(place), bits[place]);
        }
        is("behind the last place", x.held(bits.length), UNKNOWN);
    }

    private static void tillTheLastReading() {
        sentence("A VALUE is HELD from where it is made (ahead of the first STEP) till its last reading");
        // 4: a=+ab, 5: b=a, 6: a=3, 7: c, 8: d, which nobody reads
        held("a=+ab;b=a;a=3;c=-2b;d=*aa", 4, 3, 16, 32, 32 + 64, 64 + 128, 128 + 256);
        held("b=a;c=a;a=1", 1, 1, 1 + 16, 32, 64);
        held("a=1;b=2;c=+ab", 4, 0, 16, 16 + 32, 64);
        // the last reading is one of a step that nobody needs
        held("b=1;c=b;a=2", 1, 0, 16, 32, 64);
    }

    private static void tillTheEndIfWanted() {
        sentence("till the end, if it is in a WANTED REGISTER then");
        held("a=1;b=2;c=3", 7, 0, 16, 48, 112);
        held("a=1;b=2;c=3", 15, 8, 8 + 16, 8 + 48, 8 + 112);
        held("b=a", 3, 1, 1 + 16);
        held("b=a;b=a", 3, 1, 1 + 16, 1 + 32);
        // it is in a wanted register, but not at the end
        held("a=1;a=2", 1, 0, 16, 32);
        for (int wanted = 1; wanted <= 15; wanted++) {
            held("", wanted, wanted);
        }
    }

    private static void neverReadNorWanted() {
        sentence("(a VALUE that is never read, nor WANTED: it is HELD just behind its STEP; one of 0 to 3: not at all)");
        held("a=1;a=2;a=3;b=4", 1, 0, 16, 32, 64, 64 + 128);
        held("b=1;c=2;d=3", 1, 1, 1 + 16, 1 + 32, 1 + 64);
        held("b=a", 1, 1, 1 + 16);
    }

    private static void ofTheFirstFourNotAtAll() {
        sentence("one of 0 to 3: not at all)");
        held("a=1", 1, 0, 16);
        held("a=1;b=2;c=3;d=4", 15, 0, 16, 48, 112, 240);
        held("a=1", 9, 8, 8 + 16);
    }

    private static void bits0To15() {
        sentence("VALUES HELD ahead of a place, as bits (0 to 15).");
        is("the twelfth step's", Due.with(TWELVE).held(12), 0x8000 + 14);
        is("the first four ahead of twelve steps", Due.with("a=+aa;".repeat(11) + "a=+aa").held(0), 15);
        is("the last four of twelve", Due.with("a=1;".repeat(8) + "a=1;b=2;c=3;d=4").held(12), 0xF000);
    }

    private static void noSuchPlace() {
        sentence("UNKNOWN.");
        refusedBeyond(FewerSteps::new, "held in an empty code", 0, 0, FewerSteps::held, UNKNOWN);
        refusedBeyond(() -> Due.with("a=b;b=c"), "held in two", 0, 2, FewerSteps::held, UNKNOWN);
        refusedBeyond(() -> Due.with(TWELVE), "held in twelve", 0, 12, FewerSteps::held, UNKNOWN);
    }
}

/** Promise 11: live. */
public final class Promise11Test extends Promise {
    public static void main(String[] args) {
        begin(11);
        asBits();
        readAheadOfBeingATarget();
        wantedAndNotATarget();
        placesUpToTheEnd();
        noSuchPlace();
        end();
    }

    private static void lives(String code, int wanted, int... bits) {
        FewerSteps x = Due.with(code, wanted);
        for (int place = 0; place < bits.length; place++) {
            is("live(" + place + ") of " + code + " wanted " + wanted, x.live(place), bits[place]);
        }
        is("behind the last place", x.live(bits.length), UNKNOWN);
    }

    private static void asBits() {
        sentence("LIVE, as bits.");
        lives("a=+ab;b=c;c=1;b=+bb", 15, 15, 13, 11, 15, 15);
        lives("a=+ab;b=c;c=1;b=+bb", 8, 15, 12, 10, 10, 8);
    }

    private static void readAheadOfBeingATarget() {
        sentence("REGISTERS whose number there may be read by a STEP from there on ahead of being a TARGET");
        // a step reads ahead of its target's being one
        lives("a=+a1", 8, 9, 8);
        lives("a=b", 8, 10, 8);
        lives("a=1;b=a", 8, 8, 9, 8);
        lives("b=a;a=1;c=a", 8, 9, 8, 9, 8);
        // nobody needs what the second one makes, but it reads
        lives("a=b;c=a", 8, 10, 9, 8);
        lives("a=mcd", 2, 14, 2);
    }

    private static void wantedAndNotATarget() {
        sentence("or that are WANTED and not a TARGET from there on");
        lives("a=1", 1, 0, 1);
        lives("a=1", 3, 2, 3);
        lives("a=1;b=2;c=3;d=4", 15, 0, 1, 3, 7, 15);
        lives("a=1;a=2;a=3", 1, 0, 0, 0, 1);
    }

    private static void placesUpToTheEnd() {
        sentence("FACTS ahead of a place i (0 to how many STEPS: the end)");
        for (int wanted = 1; wanted <= 15; wanted++) {
            lives("", wanted, wanted);
            is("the end of twelve steps", Due.with(TWELVE, wanted).live(12), wanted);
            is("the first of twelve steps", Due.with(TWELVE, wanted).live(0), wanted & 14);
        }
    }

    private static void noSuchPlace() {
        sentence("UNKNOWN: places 0 to STEPS.");
        refusedBeyond(FewerSteps::new, "live of an empty code", 0, 0, FewerSteps::live, UNKNOWN);
        refusedBeyond(() -> Due.with("a=b;b=c"), "live of two", 0, 2, FewerSteps::live, UNKNOWN);
        refusedBeyond(() -> Due.with(TWELVE), "live of twelve", 0, 12, FewerSteps::live, UNKNOWN);
    }
}

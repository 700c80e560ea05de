/** Promise 13: known. */
public final class Promise13Test extends Promise {
    public static void main(String[] args) {
        begin(13);
        aheadOfAPlace();
        asFarAsAllOperandsAreKnown();
        leftOverBy8();
        placesUpToTheEnd();
        noSuchPlace();
        noSuchRegister();
        end();
    }

    private static void known(String code, int register, int... numbers) {
        FewerSteps x = Due.with(code);
        for (int place = 0; place < numbers.length; place++) {
            is("known(" + place + ", " + register + ") of " + code, x.known(place, register), numbers[place]);
        }
    }

    private static void aheadOfAPlace() {
        sentence("What is KNOWN of a REGISTER ahead of a place; NONE.");
        known("a=3;b=-a5;c=*0d;d=b;a=+ac", 0, NONE, 3, 3, 3, 3, NONE);
        known("a=3;b=-a5;c=*0d;d=b;a=+ac", 1, NONE, NONE, 6, 6, 6, 6);
        known("a=3;b=-a5;c=*0d;d=b;a=+ac", 2, NONE, NONE, NONE, NONE, NONE, NONE);
        known("a=3;b=-a5;c=*0d;d=b;a=+ac", 3, NONE, NONE, NONE, NONE, 6, 6);
        for (int digit = 0; digit <= 7; digit++) {
            known("d=" + digit, 3, NONE, digit);
        }
    }

    private static void asFarAsAllOperandsAreKnown() {
        sentence("KNOWN: a REGISTER's number, as far as digits and STEPS all of whose OPERANDS are KNOWN tell it.");
        known("a=*b0", 0, NONE, NONE);
        known("a=*0b", 0, NONE, NONE);
        known("a=-bb", 0, NONE, NONE);
        known("a=m0b", 0, NONE, NONE);
        known("a=1;a=*ab;a=*a0", 0, NONE, 1, NONE, NONE);
        known("a=1;a=b", 0, NONE, 1, NONE);
        known("a=1;a=a", 0, NONE, 1, 1);
        known("a=5;a=+aa;a=*aa;a=ma7", 0, NONE, 5, 2, 4, 4);
    }

    private static void leftOverBy8() {
        sentence("All numbers in registers are left over by 8 (0 to 7).");
        known("a=+71", 0, NONE, 0);
        known("a=+77", 0, NONE, 6);
        known("a=-01", 0, NONE, 7);
        known("a=-07", 0, NONE, 1);
        known("a=*77", 0, NONE, 1);
        known("a=*24", 0, NONE, 0);
        known("a=m70", 0, NONE, 0);
        known("a=m77", 0, NONE, 7);
    }

    private static void placesUpToTheEnd() {
        sentence("FACTS ahead of a place i (0 to how many STEPS: the end)");
        for (int r = 0; r < 4; r++) {
            known("", r, NONE);
        }
        is("the end of twelve steps", Due.with("a=1;" + "a=+a1;".repeat(10) + "a=+a1").known(12, 0), 4);
    }

    private static void noSuchPlace() {
        sentence("UNKNOWN.");
        refusedBeyond(FewerSteps::new, "known in an empty code", 0, 0, (x, place) -> x.known(place, 0), UNKNOWN);
        refusedBeyond(() -> Due.with("a=1;b=2"), "known in two", 0, 2, (x, place) -> x.known(place, 3), UNKNOWN);
        refusedBeyond(() -> Due.with(TWELVE), "known in twelve", 0, 12, (x, place) -> x.known(place, 0), UNKNOWN);
    }

    private static void noSuchRegister() {
        sentence("UNKNOWN.");
        refusedBeyond(() -> Due.with("a=1;b=2"), "known of a register", 0, 3, (x, r) -> x.known(1, r), UNKNOWN);
        refusedBeyond(() -> Due.with(TWELVE), "known of a register at the end", 0, 3, (x, r) -> x.known(12, r), UNKNOWN);
        is("neither is there", Due.with("a=1").known(2, 4), UNKNOWN);
    }
}

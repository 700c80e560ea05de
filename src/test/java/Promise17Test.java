/** Promise 17: behind. */
public final class Promise17Test extends Promise {
    public static void main(String[] args) {
        begin(17);
        readsWhatThatOneMade();
        hasATargetThatThatOneReadsOrHas();
        asBits();
        noSuchStep();
        end();
    }

    private static void behind(String code, int... bits) {
        FewerSteps x = Due.with(code);
        for (int i = 0; i < bits.length; i++) {
            is("behind(" + i + ") of " + code, x.behind(i), bits[i]);
        }
        is("no such step", x.behind(bits.length), UNKNOWN);
    }

    private static void readsWhatThatOneMade() {
        sentence("BEHIND: a STEP must stand behind an earlier one, if it reads the TARGET of that "
                + "(that reading comes of it: no other TARGET between)");
        behind("a=1;b=a", 0, 1);
        behind("a=1;b=+ca", 0, 1);
        behind("a=1;b=2;c=+ab", 0, 0, 3);
        // the reading comes of the second one alone
        behind("a=1;a=2;b=a", 0, 1, 2);
        behind("a=1;b=a;c=a;d=a", 0, 1, 1, 1);
        // what was in a at first comes of no step
        behind("b=a;c=a", 0, 0);
        behind("a=+aa", 0);
    }

    private static void hasATargetThatThatOneReadsOrHas() {
        sentence("or has a TARGET that that one reads or has");
        behind("a=1;a=2", 0, 1);
        behind("b=a;a=1", 0, 1);
        behind("b=+ca;a=1", 0, 1);
        // all that came ahead, not the last one alone
        behind("a=1;a=2;a=3", 0, 1, 3);
        behind("b=a;c=a;a=1", 0, 0, 3);
        behind("b=a;a=1;a=2", 0, 1, 3);
        behind("b=a;a=+aa", 0, 1);
        behind("a=+aa;a=+aa", 0, 1);
        behind("a=b;b=c;c=d;d=a", 0, 1, 2, 5);
    }

    private static void asBits() {
        sentence("STEPS that one must stand BEHIND, as bits.");
        behind("a=1;a=2;b=a;a=3;c=+ab;b=0", 0, 1, 2, 7, 12, 20);
        behind("a=1;b=2;c=3;d=4", 0, 0, 0, 0);
        FewerSteps used = Due.with("a=1;b=a");
        used.behind(1);
        Due.code(used, "a=1;b=2");
        is("what stood in the code before does not count", used.behind(1), 0);
        FewerSteps x = Due.with(TWELVE);
        for (int i = 0; i < 12; i++) {
            is("behind(" + i + ") of twelve", x.behind(i), (1 << i) - 1);
        }
    }

    private static void noSuchStep() {
        sentence("UNKNOWN.");
        refusedBeyond(FewerSteps::new, "behind in an empty code", 0, -1, FewerSteps::behind, UNKNOWN);
        refusedBeyond(() -> Due.with("a=b;b=c"), "behind in two", 0, 1, FewerSteps::behind, UNKNOWN);
        refusedBeyond(() -> Due.with(TWELVE), "behind in twelve", 0, 11, FewerSteps::behind, UNKNOWN);
    }
}

/** Promise 37: told. */
public final class Promise37Test extends Promise {
    public static void main(String[] args) {
        begin(37);
        tellsEach();
        atFirst();
        atMost();
        refusesOther();
        end();
    }

    private static void told(FewerSteps x, int... want) {
        for (int what = 0; what < want.length; what++) {
            is("told(" + what + ")", x.told(what), want[what]);
        }
    }

    private static void tellsEach() {
        sentence("0 STEPS, 1 signs, 2 WANTED, 3 RULES, 4 to 8 what set() sets, 9 STEPS of THE OTHER one.");
        FewerSteps x = Due.with("a=b;b=c;c=d");
        x.keep();
        Due.code(x, "a=b");
        Due.rule(x, "a=b>");
        x.want(6);
        for (int which = 0; which < 5; which++) {
            x.set(which, which == 0 ? 3 : which + 1);
        }
        Due.say(x, "a=b;b");
        told(x, 1, 5, 6, 1, 3, 2, 3, 4, 5, 3);
    }

    private static void atFirst() {
        sentence("0 STEPS, 1 signs, 2 WANTED, 3 RULES, 4 to 8 what set() sets, 9 STEPS of THE OTHER one.");
        told(new FewerSteps(), 0, 0, 15, 0, 1, 1, 1, 1, 1, 0);
    }

    private static void atMost() {
        sentence("0 STEPS, 1 signs, 2 WANTED, 3 RULES, 4 to 8 what set() sets, 9 STEPS of THE OTHER one.");
        FewerSteps x = Due.with(TWELVE);
        x.keep();
        for (int n = 0; n < 4; n++) {
            Due.rule(x, "a=b>");
        }
        for (int which = 0; which < 5; which++) {
            x.set(which, which == 0 ? 3 : 5);
        }
        Due.say(x, "!".repeat(80));
        told(x, 12, 80, 15, 4, 3, 5, 5, 5, 5, 12);
    }

    private static void refusesOther() {
        sentence("OUTSIDE.");
        refusedBeyond(() -> Due.with("a=b"), "told", 0, 9, FewerSteps::told, OUTSIDE);
        refusedBeyond(FewerSteps::new, "told of a new object", 0, 9, FewerSteps::told, OUTSIDE);
    }
}

/** Promise 25: width. */
public final class Promise25Test extends Promise {
    public static void main(String[] args) {
        begin(25);
        aheadOfAndBehindSteps();
        intoThePlaceOfOneReadLast();
        readsTheValuesThatItDoes();
        leastAndMost();
        end();
    }

    private static void width(String code, int wanted, int want) {
        is("width() of " + code + " wanted " + wanted, Due.with(code, wanted).width(), want);
    }

    private static void aheadOfAndBehindSteps() {
        sentence("the most VALUES HELD at once, ahead of and behind STEPS");
        // ahead of the first one
        width("a=+ab;a=+ac;a=+ad", 1, 4);
        // behind the last one
        width("a=1;b=2;c=3", 7, 3);
        // between two
        width("a=1;b=2;c=+ab", 4, 2);
        // just behind one whose value nobody needs
        width("d=1;a=+ab", 1, 3);
        width("a=+ab;d=1", 1, 2);
    }

    private static void intoThePlaceOfOneReadLast() {
        sentence("(a STEP's VALUE may come into the place of one that it reads last)");
        width("a=+aa", 1, 1);
        width("b=a", 2, 1);
        width("a=+ab", 1, 2);
        width("b=a", 3, 2);
        width("a=+ab;c=+bc", 5, 3);
    }

    private static void readsTheValuesThatItDoes() {
        sentence("WIDTH of an ORDER (in which each STEP reads the VALUES that it does)");
        // a is another value once it was a target, and the one before is not held
        width("a=1;b=a;a=2;c=a", 6, 2);
        // the same number twice is two values
        width("b=a;c=a", 7, 3);
        width("a=1;b=1;c=1;d=1", 15, 4);
    }

    private static void leastAndMost() {
        sentence("WIDTH as THE CODE stands.");
        for (int wanted = 1; wanted <= 15; wanted++) {
            width("", wanted, Integer.bitCount(wanted));
        }
        width("a=1", 1, 1);
        width(TWELVE, 1, 1);
        width(TWELVE, 15, 4);
        width("a=1;b=2;c=3;d=4", 15, 4);
        // a better order does not matter
        FewerSteps x = Due.with("a=1;b=2;c=3;d=+ab;d=+dc", 8);
        is("as it stands", x.width(), 3);
        is("the best order", x.fewest(-1), 2);
        is("as it stands, behind that", x.width(), 3);
    }
}

/** Promise 12: bad. */
public final class Promise12Test extends Promise {
    public static void main(String[] args) {
        begin(12);
        deadSteps();
        needlessSteps();
        knownDoesNotMatter();
        none();
        refusesOther();
        end();
    }

    private static void dead(String code, int wanted, int want) {
        is("bad(0) of " + code + " wanted " + wanted, Due.with(code, wanted).bad(0), want);
    }

    private static void needless(String code, int want) {
        is("bad(1) of " + code, Due.with(code).bad(1), want);
    }

    private static void deadSteps() {
        sentence("A STEP is DEAD, if its TARGET is not LIVE behind it.");
        dead("a=+ab;b=c;c=1;b=+bb", 15, 0);
        dead("a=+ab;b=c;c=1;b=+bb", 8, 1 + 4 + 8);
        dead("a=1", 1, 0);
        dead("a=1", 14, 1);
        dead("a=1;a=2", 1, 1);
        dead("a=a", 1, 0);
        dead("a=a", 2, 1);
        // the dead second step reads what the first one makes
        dead("a=+a1;a=+a1", 2, 2);
        dead("a=1;a=+a1", 1, 0);
        dead("b=a;a=1;b=a", 2, 1);
        dead(TWELVE, 1, 0x7FF);
        dead(TWELVE, 2, 0xFFF);
    }

    private static void needlessSteps() {
        sentence("A STEP is NEEDLESS, if ahead of it some REGISTER holds the SORT that it makes.");
        needless("a=+ab;b=c;c=1;b=+bb", 2);
        needless("a=a", 1);
        needless("a=b", 1);
        needless("a=b;b=a", 3);
        needless("a=1;b=1;a=2;c=1;b=2;c=1;a=1", 2 + 8 + 16 + 32 + 64);
        needless("a=+bc;d=+cb", 2);
        needless("a=*bc;d=*cb", 2);
        needless("a=mbc;a=mcb", 2);
        needless("a=-bc;d=-cb", 0);
        needless("a=-bc;d=-bc", 2);
        // it was there, but is no more
        needless("a=+bc;a=0;d=+bc", 0);
        needless("d=+bc;b=1;a=+bc", 0);
        // digits' sorts that no register holds
        needless("a=+12;b=1;c=1", 4);
        needless("a=a;b=b;c=c;d=d;a=b;b=c;c=d;d=a;a=a;b=b;c=c;d=d", 0xFFF);
    }

    private static void knownDoesNotMatter() {
        sentence("(KNOWN does not matter for SORTS.)");
        needless("a=2;b=+11", 0);
        needless("a=+11;b=*12", 0);
        needless("a=0;b=-cc", 0);
        needless("a=+b0", 0);
    }

    private static void none() {
        sentence("DEAD STEPS (what = 0), NEEDLESS ones (1), as bits.");
        is("an empty code's dead ones", new FewerSteps().bad(0), 0);
        is("an empty code's needless ones", new FewerSteps().bad(1), 0);
        FewerSteps x = Due.with("a=b;a=c;d=+aa", 8);
        is("dead ones", x.bad(0), 1);
        is("needless ones", x.bad(1), 3);
        is("dead ones once more", x.bad(0), 1);
        text("the code stays", Due.read(x), "a=b;a=c;d=+aa");
    }

    private static void refusesOther() {
        sentence("OUTSIDE.");
        refusedBeyond(() -> Due.with("a=a"), "bad", 0, 1, FewerSteps::bad, OUTSIDE);
        refusedBeyond(FewerSteps::new, "bad of an empty code", 0, 1, FewerSteps::bad, OUTSIDE);
    }
}

/** Promise 21: time. */
public final class Promise21Test extends Promise {
    public static void main(String[] args) {
        begin(21);
        allThatWasMadeCanBeRead();
        leastAndMost();
        end();
    }

    private static void time(String code, int[] settings, int want) {
        FewerSteps x = Due.with(code);
        for (int which = 0; which < settings.length; which++) {
            x.set(which, settings[which]);
        }
        is("time() of " + code, x.time(), want);
        x.want(8);
        is("wanted ones do not matter", x.time(), want);
    }

    private static void allThatWasMadeCanBeRead() {
        sentence("TIME: the first TICK in which all that was made can be read.");
        time("a=b;b=c;c=d", new int[] {1}, 3);
        time("a=b;b=c;c=d", new int[] {3}, 3);
        time("a=1;b=2;c=3;d=4", new int[] {2}, 2);
        time("a=*aa;b=+bb;c=-cc;d=mdd", new int[] {3, 2, 3, 4, 5}, 6);
        time("a=*aa;b=a;c=1", new int[] {2, 1, 1, 4, 1}, 5);
        // an earlier step's number comes later than the last one's
        time("a=*aa;b=1", new int[] {1, 1, 1, 5, 1}, 5);
        // a later step has its target, still it counts
        time("a=*bb;a=1", new int[] {2, 1, 1, 5, 1}, 5);
        time("a=*bb;b=1;b=2", new int[] {3, 1, 1, 5, 1}, 5);
    }

    private static void leastAndMost() {
        sentence("TIME as THE CODE stands.");
        time("", new int[] {1}, 0);
        time("", new int[] {3, 5, 5, 5, 5}, 0);
        time("a=1", new int[] {3, 5, 5, 5, 5}, 1);
        time("a=a", new int[] {3, 5, 5, 5, 5}, 1);
        time("a=+aa", new int[] {1, 5, 1, 1, 1}, 5);
        time("a=maa;".repeat(11) + "a=maa", new int[] {1, 1, 1, 1, 5}, 60);
        time(TWELVE, new int[] {3, 5, 5, 5, 5}, 12);
        FewerSteps x = Due.with("b=1;a=*aa");
        x.set(3, 5);
        is("another order would be quicker", x.time(), 6);
        is("the quickest one", x.quickest(-1), 5);
        is("as it stands, behind that", x.time(), 6);
        is("its second step's tick", x.tick(1), 1);
    }
}

/** Promises 23 to 27. */
public final class ValuesTest {
    private static final int UNKNOWN = -1, OUTSIDE = -2, STATE = -3, NONE = -6;
    private static final Due due = new Due();

    public static void main(String[] args) {
        reads();
        helds();
        widths();
        fewests();
        spills();
        due.end();
    }

    private static void reads() {
        FewerSteps x = Due.with("a=+ab;b=a;a=3;c=-2b;d=*aa");
        int[][] values = {{0, 1}, {4, NONE}, {NONE, NONE}, {NONE, 5}, {6, 6}};
        for (int i = 0; i < values.length; i++) {
            for (int k = 0; k < 2; k++) {
                due.is("23: reads(" + i + ", " + k + ")", x.reads(i, k), values[i][k]);
            }
        }
        due.is("23: no such step", x.reads(5, 0), UNKNOWN);
        due.is("23: no such step", x.reads(-1, 0), UNKNOWN);
        due.is("23: unknown ahead of outside", x.reads(5, 2), UNKNOWN);
        due.is("23: outside", x.reads(4, 2), OUTSIDE);
        due.is("23: outside", x.reads(4, -1), OUTSIDE);
    }

    private static void helds() {
        FewerSteps x = Due.with("a=+ab;b=a;a=3;c=-2b;d=*aa");
        x.want(4);
        // 4: a=+ab, 5: b=a, 6: a=3, 7: c, 8: d, which nobody reads
        int[] bits = {3, 16, 32, 32 + 64, 64 + 128, 128 + 256};
        for (int place = 0; place < bits.length; place++) {
            due.is("24: held(" + place + ")", x.held(place), bits[place]);
        }
        due.is("24: no such place", x.held(6), UNKNOWN);
        due.is("24: no such place", x.held(-1), UNKNOWN);
        FewerSteps y = new FewerSteps();
        y.want(6);
        due.is("24: an empty code", y.held(0), 6);
        due.is("24: an empty code", y.held(1), UNKNOWN);
        FewerSteps z = Due.with("a=1;a=2;a=3;b=4");
        z.want(1);
        due.is("24: never read, nor wanted", z.held(1), 16);
        due.is("24: just behind its step alone", z.held(2), 32);
        due.is("24: the wanted one", z.held(3), 64);
        due.is("24: to the end", z.held(4), 64 + 128);
        due.is("24: the twelfth step's", Due.with("a=1;".repeat(11) + "a=1").held(12), 0x8000 + 14);
    }

    private static void widths() {
        due.is("25: an empty code", new FewerSteps().width(), 4);
        FewerSteps x = new FewerSteps();
        x.want(5);
        due.is("25: an empty code", x.width(), 2);
        due.is("25: into the place of one read last", narrow("a=+ab", 1).width(), 2);
        due.is("25: a value that nobody needs", narrow("d=1;a=+ab", 1).width(), 3);
        due.is("25: behind the last", narrow("a=1;b=2;c=3", 7).width(), 3);
        due.is("25: ahead of the first", narrow("a=+ab;a=+ac;a=+ad", 1).width(), 4);
    }

    private static FewerSteps narrow(String text, int wanted) {
        FewerSteps x = Due.with(text);
        x.want(wanted);
        return x;
    }

    private static void few(String text, int wanted, int width, int... order) {
        FewerSteps x = narrow(text, wanted);
        due.is("26: fewest of " + text, x.fewest(-1), width);
        for (int i = 0; i < order.length; i++) {
            due.is("26: fewest(" + i + ") of " + text, x.fewest(i), order[i]);
        }
        due.is("26: there is none", x.fewest(order.length), NONE);
        due.is("26: there is none", x.fewest(-2), NONE);
    }

    private static void fewests() {
        few("", 3, 2);
        few("a=1;b=2;c=3;d=+ab;d=+dc", 8, 2, 0, 1, 3, 2, 4);
        few("a=1;a=2", 1, 1, 0, 1);
        // the first number is not read; the second is made first, or later, as long as its place is free
        few("a=1;b=2;a=b", 1, 1, 0, 1, 2);
        // steps may go ahead of those whose targets they have
        few("a=1;b=a;a=2;c=a;d=+bc", 8, 2, 0, 1, 2, 3, 4);
        few("a=1;b=2;c=a;d=b;a=+cd", 1, 2, 0, 1, 2, 3, 4);
        String nine = "a=1;".repeat(8) + "a=1";
        due.is("26: nine steps", Due.with(nine).fewest(-1), STATE);
        due.is("26: state ahead of none", Due.with(nine).fewest(99), STATE);
    }

    private static void spill(String text, int wanted, int k, int want) {
        due.is("27: spill(" + k + ") of " + text, narrow(text, wanted).spill(k), want);
    }

    private static void spills() {
        due.is("27: outside", new FewerSteps().spill(0), OUTSIDE);
        due.is("27: outside", new FewerSteps().spill(9), OUTSIDE);
        due.is("27: outside", new FewerSteps().spill(-1), OUTSIDE);
        spill("", 15, 4, 0);
        spill("", 15, 3, 1);
        spill("", 15, 1, 7);
        spill("", 10, 1, 2);
        // a alone is in the way of both
        spill("c=+ab;d=+ca", 8, 1, 1);
        // d is never read, what the first step makes is read once
        spill("c=+ab;c=+ca;c=b", 12, 2, 8 + 16);
        // a is read twice by one step
        spill("c=+aa;d=b", 12, 1, 2 + 16);
        spill("a=+ab;a=+ac;a=+ad", 1, 3, 1);
        spill("a=+ab;a=+ac;a=+ad", 1, 8, 0);
        String[] codes = {"a=1;b=2;c=+ab;d=*cc", "a=+ab;c=d", "d=3;c=2;b=+cd;a=-bd"};
        FewerSteps x = new FewerSteps();
        for (String code : codes) {
            Due.code(x, code);
            for (int k = 1; k <= 4; k++) {
                due.is("27: spill(" + k + ") of " + code + " behind other calls", x.spill(k), narrow(code, 15).spill(k));
            }
        }
    }
}

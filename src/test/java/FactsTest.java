/** Promises 11 to 16. */
public final class FactsTest {
    private static final int UNKNOWN = -1, OUTSIDE = -2, NONE = -6;
    private static final Due due = new Due();

    public static void main(String[] args) {
        lives();
        bads();
        knowns();
        sorts();
        mendings();
        cleans();
        due.end();
    }

    private static void lives() {
        FewerSteps x = Due.with("a=+ab;b=c;c=1;b=+bb");
        int[] all = {8 + 4 + 2 + 1, 8 + 4 + 1, 8 + 2 + 1, 8 + 4 + 2 + 1, 15};
        int[] d = {8 + 4 + 2 + 1, 8 + 4, 8 + 2, 8 + 2, 8};
        for (int place = 0; place < 5; place++) {
            due.is("11: live(" + place + ")", x.live(place), all[place]);
        }
        x.want(8);
        for (int place = 0; place < 5; place++) {
            due.is("11: live(" + place + "), d wanted", x.live(place), d[place]);
        }
        due.is("11: no such place", x.live(5), UNKNOWN);
        due.is("11: no such place", x.live(-1), UNKNOWN);
        due.is("11: an empty code", new FewerSteps().live(0), 15);
        due.is("11: an empty code", new FewerSteps().live(1), UNKNOWN);
    }

    private static void bads() {
        FewerSteps x = Due.with("a=+ab;b=c;c=1;b=+bb");
        due.is("12: dead", x.bad(0), 0);
        x.want(8);
        due.is("12: dead, d wanted", x.bad(0), 1 + 4 + 8);
        due.is("12: needless", x.bad(1), 2);
        due.is("12: outside", x.bad(2), OUTSIDE);
        due.is("12: outside", x.bad(-1), OUTSIDE);
        due.is("12: an empty code", new FewerSteps().bad(0), 0);
        due.is("12: an empty code", new FewerSteps().bad(1), 0);
        due.is("12: digits that are there", Due.with("a=1;b=1;a=2;c=1;b=2;c=1;a=1").bad(1), 2 + 8 + 16 + 32 + 64);
        due.is("12: either way round", Due.with("a=+bc;d=+cb").bad(1), 2);
        due.is("12: not either way round", Due.with("a=-bc;d=-cb").bad(1), 0);
        due.is("12: known does not matter", Due.with("a=2;b=+11").bad(1), 0);
        due.is("12: it was there, but is no more", Due.with("a=+bc;a=0;d=+bc").bad(1), 0);
        due.is("12: in its own target", Due.with("a=mbc;a=mcb").bad(1), 2);
    }

    private static void knowns() {
        FewerSteps x = Due.with("a=3;b=-a5;c=*0d;d=b;a=+ac");
        due.is("13: at first", x.known(0, 0), NONE);
        due.is("13: a digit", x.known(1, 0), 3);
        due.is("13: an act", x.known(2, 1), 6);
        due.is("13: one of two is not enough", x.known(3, 2), NONE);
        due.is("13: a copy", x.known(4, 3), 6);
        due.is("13: no longer", x.known(5, 0), NONE);
        due.is("13: still", x.known(4, 0), 3);
        due.is("13: place", x.known(6, 0), UNKNOWN);
        due.is("13: place", x.known(-1, 0), UNKNOWN);
        due.is("13: register", x.known(0, 4), UNKNOWN);
        due.is("13: register", x.known(0, -1), UNKNOWN);
    }

    private static void sorts() {
        FewerSteps x = Due.with("a=+2b;b=*a3;c=2;d=+bc;d=*3a;a=-da;b=-ad");
        // 2 is 4, 2+b 5, 3 is 6, 5*6 7, c 4, 7+4 8, d 7, 7-5 9, 9-7 10
        int[][] after = {{0, 1, 2, 3}, {5, 1, 2, 3}, {5, 7, 2, 3}, {5, 7, 4, 3}, {5, 7, 4, 8}, {5, 7, 4, 7}, {9, 7, 4, 7}, {9, 10, 4, 7}};
        for (int place = 0; place < after.length; place++) {
            for (int r = 0; r < 4; r++) {
                due.is("14: sort(" + place + ", " + r + ")", x.sort(place, r), after[place][r]);
            }
        }
        due.is("14: place", x.sort(8, 0), UNKNOWN);
        due.is("14: place", x.sort(-1, 0), UNKNOWN);
        due.is("14: register", x.sort(0, 4), UNKNOWN);
        due.is("14: register", x.sort(0, -1), UNKNOWN);
        due.is("14: the same act of other sorts", Due.with("a=+bc;d=+ac").sort(2, 3), 5);
        due.is("14: m either way round", Due.with("a=mbc;d=mcb").sort(2, 3), 4);
    }

    private static void mend(String from, int wanted, int which, int many, String to) {
        FewerSteps x = Due.with(from);
        x.want(wanted);
        due.is("15: mend(" + which + ") of " + from, x.mend(which), many);
        due.text("15: mend(" + which + ") of " + from, Due.read(x), to);
    }

    private static void mendings() {
        mend("a=3;b=+aa;c=a;d=-da;a=0;b=+ab", 15, 1, 4, "a=3;b=+33;c=3;d=-d3;a=0;b=+06");
        mend("a=3;b=+ca", 15, 2, 0, "a=3;b=+ca");
        mend("a=+35;b=-35;c=*35;d=m35;a=+a3;b=3", 15, 2, 4, "a=0;b=6;c=7;d=3;a=+a3;b=3");
        mend("a=+bc;d=+cb;d=a;c=+bc", 15, 3, 2, "a=+bc;d=a;d=a;c=a");
        mend("a=+bc;d=+cb;a=0;c=+bc", 15, 3, 2, "a=+bc;d=a;a=0;c=d");
        mend("a=+bc;a=+cb", 15, 3, 1, "a=+bc;a=a");
        mend("a=1;b=1", 15, 3, 0, "a=1;b=1");
        mend("d=+ab;c=+ab;a=+ab", 15, 3, 2, "d=+ab;c=d;a=c");
        mend("d=+ab;a=0;c=+ab", 15, 3, 0, "d=+ab;a=0;c=+ab");
        mend("d=+bb;c=+bb;a=+bb", 15, 3, 2, "d=+bb;c=d;a=c");
        mend("a=b;c=a;d=d;b=b", 10, 4, 3, "a=b");
        mend("a=b;c=a", 10, 4, 1, "a=b");
        mend("a=a", 1, 4, 1, "");
        mend("a=+a0", 1, 4, 0, "a=+a0");
        FewerSteps x = Due.with("a=a");
        due.is("15: outside", x.mend(0), OUTSIDE);
        due.is("15: outside", x.mend(5), OUTSIDE);
        due.is("15: nothing changed", x.told(0), 1);
        for (int which = 1; which <= 4; which++) {
            due.is("15: an empty code", new FewerSteps().mend(which), 0);
        }
    }

    private static void clean(String from, int wanted, String to) {
        FewerSteps x = Due.with(from);
        x.want(wanted);
        x.keep();
        due.is("16: clean of " + from, x.clean(), to.isEmpty() ? 0 : to.split(";").length);
        due.text("16: clean of " + from, Due.read(x), to);
        due.is("16: it does the same", x.unlike(), NONE);
    }

    private static void cleans() {
        clean("a=3;b=+aa;c=*bd;d=c;a=-a3", 8, "c=*6d;d=c");
        clean("a=b;c=a", 10, "");
        clean("a=+bc;d=+cb;a=-ad", 15, "a=+bc;d=a;a=-ad");
        clean("a=1;b=+a1;c=*bb;d=-ca", 8, "d=3");
        clean("a=a;b=b;c=+c0", 15, "c=+c0");
        clean("a=+bc;a=+cb;a=+bc", 1, "a=+bc");
        due.is("16: an empty code", new FewerSteps().clean(), 0);
    }
}

/** Promises 17 to 22. */
public final class OrdersTest {
    private static final int UNKNOWN = -1, OUTSIDE = -2, STATE = -3, NONE = -6;
    private static final Due due = new Due();

    public static void main(String[] args) {
        behinds();
        orders();
        sets();
        ticks();
        quickests();
        due.end();
    }

    private static void behinds() {
        FewerSteps x = Due.with("a=1;a=2;b=a;a=3;c=+ab;b=0");
        int[] bits = {0, 1, 2, 7, 12, 20};
        for (int i = 0; i < bits.length; i++) {
            due.is("17: behind(" + i + ")", x.behind(i), bits[i]);
        }
        due.is("17: no such step", x.behind(6), UNKNOWN);
        due.is("17: no such step", x.behind(-1), UNKNOWN);
        due.is("17: an empty code", new FewerSteps().behind(0), UNKNOWN);
        due.is("17: a reading of itself", Due.with("a=+aa").behind(0), 0);
        due.is("17: its own number", Due.with("b=a;a=+aa").behind(1), 1);
    }

    private static void orders() {
        due.is("18: an empty code", new FewerSteps().orders(), 1);
        due.is("18: four apart", Due.with("a=1;b=2;c=3;d=4").orders(), 24);
        due.is("18: a chain", Due.with("a=1;a=2;a=3").orders(), 1);
        due.is("18: all read a", Due.with("b=a;c=a;a=1").orders(), 2);
        due.is("18: the most", Due.with("a=1;a=1;a=1;b=1;b=1;b=1;c=1;c=1;c=1;d=1;d=1;d=1").orders(), 369600);
        due.is("18: two and two", Due.with("a=1;b=a;c=2;d=c").orders(), 6);
    }

    private static void sets() {
        FewerSteps x = new FewerSteps();
        due.is("19: units", x.set(0, 3), 1);
        due.is("19: units", x.set(0, 4), OUTSIDE);
        due.is("19: units", x.set(0, 0), OUTSIDE);
        due.is("19: units", x.set(0, 1), 3);
        for (int which = 1; which <= 4; which++) {
            due.is("19: delay", x.set(which, 5), 1);
            due.is("19: delay", x.set(which, 6), OUTSIDE);
            due.is("19: delay", x.set(which, 0), OUTSIDE);
            due.is("19: delay", x.set(which, which), 5);
            due.is("19: told", x.told(4 + which), which);
        }
        due.is("19: which", x.set(5, 1), OUTSIDE);
        due.is("19: which", x.set(-1, 1), OUTSIDE);
    }

    private static void lay(String text, int[] settings, int time, int... ticks) {
        FewerSteps x = Due.with(text);
        for (int which = 0; which < settings.length; which++) {
            x.set(which, settings[which]);
        }
        for (int i = 0; i < ticks.length; i++) {
            due.is("20: tick(" + i + ") of " + text, x.tick(i), ticks[i]);
        }
        due.is("21: time of " + text, x.time(), time);
        due.is("20: no such step", x.tick(ticks.length), UNKNOWN);
        due.is("20: no such step", x.tick(-1), UNKNOWN);
    }

    private static void ticks() {
        lay("a=b;b=c;c=d", new int[] {1}, 3, 0, 1, 2);
        // each waits for the one ahead, whose target it may not have ahead of its being read
        lay("a=b;b=c;c=d", new int[] {3}, 3, 0, 1, 2);
        lay("a=1;b=2;c=3;d=4", new int[] {2}, 2, 0, 0, 1, 1);
        lay("a=1;b=2;c=3;d=4", new int[] {3}, 2, 0, 0, 0, 1);
        lay("a=*aa;b=+bb;c=-cc;d=mdd", new int[] {3, 2, 3, 4, 5}, 6, 0, 0, 0, 1);
        // a copy's delay is 1 whatever was set
        lay("a=b;c=a", new int[] {2, 5, 5, 5, 5}, 2, 0, 1);
        // b's step waits for a; the later ones may not begin ahead of it
        lay("a=*aa;b=a;c=1", new int[] {2, 1, 1, 4, 1}, 5, 0, 4, 4);
        // the later target waits for the tick alone, not for what is made; all that was made counts
        lay("a=*bb;a=1", new int[] {2, 1, 1, 5, 1}, 5, 0, 1);
        lay("a=*bb;b=1;b=2", new int[] {3, 1, 1, 5, 1}, 5, 0, 1, 2);
        due.is("21: an empty code", new FewerSteps().time(), 0);
        due.is("20: an empty code", new FewerSteps().tick(0), UNKNOWN);
    }

    private static void quick(String text, int[] settings, int time, int... order) {
        FewerSteps x = Due.with(text);
        for (int which = 0; which < settings.length; which++) {
            x.set(which, settings[which]);
        }
        due.is("22: quickest of " + text, x.quickest(-1), time);
        for (int i = 0; i < order.length; i++) {
            due.is("22: quickest(" + i + ") of " + text, x.quickest(i), order[i]);
        }
        due.is("22: there is none", x.quickest(order.length), NONE);
        due.is("22: there is none", x.quickest(-2), NONE);
        due.text("22: the code stays", Due.read(x), text);
    }

    private static void quickests() {
        quick("a=*aa;a=+a1;b=*bb;b=+b1", new int[] {1, 1, 1, 4, 1}, 6, 0, 2, 1, 3);
        quick("a=1;b=2;c=3;d=4", new int[] {1}, 4, 0, 1, 2, 3);
        quick("a=1;b=*bb", new int[] {1, 1, 1, 5, 1}, 5, 1, 0);
        quick("a=1;b=*bb", new int[] {2, 1, 1, 5, 1}, 5, 0, 1);
        quick("b=a;a=*cc;d=1", new int[] {1, 1, 1, 5, 1}, 6, 0, 1, 2);
        quick("", new int[] {2}, 0);
        String nine = "a=1;".repeat(8) + "a=1";
        due.is("22: nine steps", Due.with(nine).quickest(-1), STATE);
        due.is("22: state ahead of none", Due.with(nine).quickest(99), STATE);
        due.is("22: eight steps", Due.with("a=1;".repeat(7) + "a=1").quickest(-1), 8);
    }
}

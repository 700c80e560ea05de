/** Promise 19: set. */
public final class Promise19Test extends Promise {
    public static void main(String[] args) {
        begin(19);
        tellsWhichItWas();
        units();
        delays();
        refusesOther();
        end();
    }

    private static void tellsWhichItWas() {
        sentence("0 UNITS, 1 to 4 DELAYS of + - * m: which it was.");
        FewerSteps x = new FewerSteps();
        for (int which = 0; which <= 4; which++) {
            int before = 1;
            for (int v = which == 0 ? 3 : 5; v >= 1; v--) {
                is("set(" + which + ", " + v + ")", x.set(which, v), before);
                is("told", x.told(4 + which), v);
                before = v;
            }
        }
        for (int which = 1; which <= 4; which++) {
            FewerSteps y = Due.with("a=+aa;b=-bb;c=*cc;d=mdd");
            y.set(0, 3);
            y.set(which, 5);
            is("the delay of the act " + which, y.time(), which == 4 ? 6 : 5);
            for (int other = 1; other <= 4; other++) {
                is("the delay of the act " + other, y.told(4 + other), other == which ? 5 : 1);
            }
        }
    }

    private static void units() {
        sentence("UNITS (1 to 3; 1 at first)");
        is("at first", new FewerSteps().set(0, 1), 1);
        refusedBeyond(FewerSteps::new, "units", 1, 3, (x, v) -> x.set(0, v), OUTSIDE);
    }

    private static void delays() {
        sentence("DELAY of an ACT (1 to 5; 1 at first)");
        for (int which = 1; which <= 4; which++) {
            int it = which;
            is("at first", new FewerSteps().set(it, 5), 1);
            refusedBeyond(FewerSteps::new, "delay " + which, 1, 5, (x, v) -> x.set(it, v), OUTSIDE);
        }
    }

    private static void refusesOther() {
        sentence("OUTSIDE.");
        refusedBeyond(FewerSteps::new, "set of another", 0, 4, (x, which) -> x.set(which, 1), OUTSIDE);
        is("both are outside", new FewerSteps().set(5, 6), OUTSIDE);
        FewerSteps x = new FewerSteps();
        x.set(0, 2);
        x.set(0, 4);
        x.set(1, 5);
        x.set(1, 0);
        is("units behind a refused one", x.set(0, 1), 2);
        is("delay behind a refused one", x.set(1, 1), 5);
    }
}

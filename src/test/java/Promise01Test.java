/** Promise 1: a new object. */
public final class Promise01Test extends Promise {
    public static void main(String[] args) {
        begin(1);
        isEmptyAtFirst();
        codeIsEmpty();
        settingsAtFirst();
        objectsAreApart();
        lastsFor512Calls();
        end();
    }

    private static void isEmptyAtFirst() {
        sentence("THE CODE is empty, all REGISTERS are WANTED; no RULES.");
        int[] first = {0, 0, 15, 0, 1, 1, 1, 1, 1, 0};
        for (int what = 0; what < first.length; what++) {
            is("told(" + what + ")", new FewerSteps().told(what), first[what]);
        }
        is("live(0)", new FewerSteps().live(0), 15);
        is("want(1)", new FewerSteps().want(1), 15);
        is("free()", new FewerSteps().free(), 0);
        is("fits(0)", new FewerSteps().fits(0), UNKNOWN);
        is("holds(0)", new FewerSteps().holds(0), UNKNOWN);
        is("replace(0)", new FewerSteps().replace(0), UNKNOWN);
        is("go()", new FewerSteps().go(), 0);
    }

    private static void codeIsEmpty() {
        sentence("THE CODE is empty at first");
        FewerSteps x = new FewerSteps();
        is("step(0, 0)", x.step(0, 0), UNKNOWN);
        is("run(77, 0)", x.run(77, 0), 77);
        is("run(77, 1)", x.run(77, 1), OUTSIDE);
        is("unlike()", x.unlike(), NONE);
        is("bad(0)", x.bad(0), 0);
        is("bad(1)", x.bad(1), 0);
        is("clean()", x.clean(), 0);
        is("orders()", x.orders(), 1);
        is("time()", x.time(), 0);
        is("quickest(-1)", x.quickest(-1), 0);
        is("quickest(0)", x.quickest(0), NONE);
        is("width()", x.width(), 4);
        is("fewest(-1)", x.fewest(-1), 4);
        is("fewest(0)", x.fewest(0), NONE);
        is("spill(3)", x.spill(3), 1);
        is("keep()", x.keep(), 0);
        is("restore(0)", x.restore(0), STATE);
        is("restore(1)", x.restore(1), STATE);
    }

    private static void settingsAtFirst() {
        sentence("UNITS (1 to 3; 1 at first)");
        is("told(4)", new FewerSteps().told(4), 1);
        is("set(0, 3)", new FewerSteps().set(0, 3), 1);
        sentence("DELAY of an ACT (1 to 5; 1 at first)");
        for (int which = 1; which <= 4; which++) {
            is("told(" + (4 + which) + ")", new FewerSteps().told(4 + which), 1);
            is("set(" + which + ", 5)", new FewerSteps().set(which, 5), 1);
        }
    }

    private static void objectsAreApart() {
        sentence("THE CODE is empty, all REGISTERS are WANTED; no RULES.");
        String first = Due.state(new FewerSteps());
        FewerSteps old = new FewerSteps();
        FewerSteps used = Due.with("a=b;b=+c1", 3);
        used.keep();
        used.set(0, 2);
        used.set(3, 4);
        Due.rule(used, "a=b>");
        Due.say(used, "a=");
        used.image(0);
        text("an older object behind calls of another", Due.state(old), first);
        text("a newer object behind calls of another", Due.state(new FewerSteps()), first);
        is("an image of another", old.restore(0), STATE);
    }

    private static void lastsFor512Calls() {
        sentence("An object is used for at most 512 calls after it has been made");
        FewerSteps x = new FewerSteps();
        String[] texts = {"a=+b1;b=*ac;c=-ba;d=mdc", "d=1;c=+dd;b=*cd;a=mbc"};
        int calls = 0;
        while (calls + 30 < 512) {
            String text = texts[calls / 30 % 2];
            for (int i = 0; i < text.length(); i++) {
                is("call " + calls + " say", x.say(text.charAt(i)), i + 1);
            }
            is("code() behind " + calls + " calls", x.code(), 4);
            calls += text.length() + 1;
            is("go() behind " + calls + " calls", x.go(), 0);
            calls++;
        }
        while (calls < 511) {
            is("set behind " + calls + " calls", x.set(0, 1), 1);
            calls++;
        }
        is("the 512th call", x.told(0), 4);
    }
}

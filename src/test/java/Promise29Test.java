/** Promise 29: free. */
public final class Promise29Test extends Promise {
    public static void main(String[] args) {
        begin(29);
        tellsHowManyThereWere();
        rulesGo();
        nothingElseGoes();
        end();
    }

    private static void tellsHowManyThereWere() {
        sentence("RULES go: how many there were.");
        for (int many = 0; many <= 4; many++) {
            FewerSteps x = new FewerSteps();
            for (int n = 0; n < many; n++) {
                Due.rule(x, "a=b>");
            }
            is("free() of " + many, x.free(), many);
            is("told(3)", x.told(3), 0);
            is("free() once more", x.free(), 0);
        }
    }

    private static void rulesGo() {
        sentence("RULES go: how many there were.");
        FewerSteps x = Due.with("a=b");
        Due.rule(x, "a=b>a=1");
        Due.rule(x, "a=b>a=2");
        x.free();
        is("holds(0)", x.holds(0), UNKNOWN);
        is("fits(0)", x.fits(0), UNKNOWN);
        is("replace(0)", x.replace(0), UNKNOWN);
        is("go()", x.go(), 0);
        Due.rule(x, "c=d>c=5");
        is("another in its place", x.replace(0), 1);
        text("its own right side", Due.read(x), "a=5");
        is("the second one is not there again", x.fits(1), UNKNOWN);
    }

    private static void nothingElseGoes() {
        sentence("RULES go: how many there were.");
        FewerSteps x = Due.with("a=b;b=+c1", 3);
        x.keep();
        x.set(0, 2);
        String before = Due.state(x);
        Due.rule(x, "a=b>");
        x.free();
        text("the state", Due.state(x), before);
        Due.say(x, "a=b");
        x.free();
        is("signs stay", x.told(1), 3);
    }
}

/** Promise 3: wipe. */
public final class Promise03Test extends Promise {
    public static void main(String[] args) {
        begin(3);
        tellsHowManyThereWere();
        signsGo();
        nothingElseGoes();
        end();
    }

    private static void tellsHowManyThereWere() {
        sentence("Signs go: how many there were.");
        for (int many = 0; many <= 80; many++) {
            FewerSteps x = new FewerSteps();
            for (int n = 0; n < many; n++) {
                x.say('!');
            }
            is("wipe() of " + many, x.wipe(), many);
            is("told(1) behind it", x.told(1), 0);
            is("wipe() once more", x.wipe(), 0);
        }
        FewerSteps full = new FewerSteps();
        for (int n = 0; n < 81; n++) {
            full.say('a');
        }
        is("a sign that was refused does not count", full.wipe(), 80);
    }

    private static void signsGo() {
        sentence("Signs go: how many there were.");
        FewerSteps x = new FewerSteps();
        Due.say(x, "a=b;c");
        x.wipe();
        is("fault(0)", x.fault(0), 0);
        is("fault(1)", x.fault(1), 0);
        is("code()", x.code(), NO);
        is("rule()", x.rule(), NO);
        Due.say(x, "d=1");
        is("other signs in their place", x.code(), 1);
        text("the code", Due.read(x), "d=1");
    }

    private static void nothingElseGoes() {
        sentence("Signs go: how many there were.");
        FewerSteps x = Due.with("a=b;b=+c1", 3);
        x.keep();
        x.set(0, 2);
        Due.rule(x, "a=b>");
        String before = Due.state(x);
        Due.say(x, "a=b");
        x.wipe();
        text("the state", Due.state(x), before);
    }
}

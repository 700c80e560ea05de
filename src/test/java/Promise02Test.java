/** Promise 2: say. */
public final class Promise02Test extends Promise {
    public static void main(String[] args) {
        begin(2);
        tellsHowMany();
        takesSigns33To126();
        takes80AtMost();
        firstThatFits();
        changesNothing();
        end();
    }

    private static FewerSteps full() {
        FewerSteps x = new FewerSteps();
        Due.say(x, "a".repeat(80));
        return x;
    }

    private static void tellsHowMany() {
        sentence("A sign more: how many.");
        FewerSteps x = new FewerSteps();
        for (int n = 1; n <= 80; n++) {
            is("sign " + n, x.say('a'), n);
            is("told(1)", x.told(1), n);
        }
        x.wipe();
        is("behind wipe()", x.say('a'), 1);
        Due.say(x, "a=b");
        x.code();
        is("behind code()", x.say('a'), 1);
        Due.say(x, "a=b>");
        x.rule();
        is("behind rule()", x.say('a'), 1);
    }

    private static void takesSigns33To126() {
        sentence("A CODE is a text on a PAD of SIGNS (codes 33 to 126), 80 at most");
        for (int sign = 33; sign <= 126; sign++) {
            is("say(" + sign + ")", new FewerSteps().say(sign), 1);
        }
        sentence("OUTSIDE; FULL.");
        refusedBeyond(FewerSteps::new, "say", 33, 126, FewerSteps::say, OUTSIDE);
    }

    private static void takes80AtMost() {
        sentence("A CODE is a text on a PAD of SIGNS (codes 33 to 126), 80 at most");
        FewerSteps x = new FewerSteps();
        for (int n = 1; n < 80; n++) {
            x.say('a');
        }
        is("the 80th", x.say('a'), 80);
        is("the 81st", x.say('a'), FULL);
        is("told(1)", x.told(1), 80);
        sentence("OUTSIDE; FULL.");
        FewerSteps y = full();
        refused(y, "say(33) when there are 80", () -> y.say(33), FULL);
        refused(y, "say(126) when there are 80", () -> y.say(126), FULL);
        is("wipe()", y.wipe(), 80);
        is("once it is wiped", y.say('a'), 1);
    }

    private static void firstThatFits() {
        sentence("Calls that are refused answer, the first of these that fits");
        refusedBeyond(Promise02Test::full, "say when there are 80 signs", 33, 126, FewerSteps::say, OUTSIDE);
    }

    private static void changesNothing() {
        sentence("They change nothing.");
        FewerSteps x = new FewerSteps();
        x.say('a');
        x.say(32);
        x.say('=');
        x.say(127);
        x.say('b');
        is("signs behind two that were refused", x.told(1), 3);
        is("they are a code", x.code(), 1);
        text("the code", Due.read(x), "a=b");
        FewerSteps y = new FewerSteps();
        String text = "a=+bc;".repeat(11) + "a=+bc";
        Due.say(y, text + "!".repeat(9));
        is("the 81st", y.say(';'), FULL);
        is("the first fault stays where it was", y.fault(0), text.length());
    }
}

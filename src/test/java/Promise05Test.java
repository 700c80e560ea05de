/** Promise 5: code. */
public final class Promise05Test extends Promise {
    public static void main(String[] args) {
        begin(5);
        isTheSigns();
        signsAreGone();
        oneToTwelveSteps();
        refusesFaults();
        nothingElseChanges();
        end();
    }

    private static void isTheSigns() {
        sentence("THE CODE is the signs' (they are gone then): STEPS.");
        String[] texts = {"a=b", "d=7", "a=b;c=*d2", "a=-01;b=mcd;c=+5a;d=*dd;a=a"};
        for (String text : texts) {
            FewerSteps x = new FewerSteps();
            Due.say(x, text);
            is("code() of " + text, x.code(), text.split(";").length);
            text("the code", Due.read(x), text);
        }
        FewerSteps x = Due.with(TWELVE);
        Due.say(x, "d=m17");
        is("a shorter code", x.code(), 1);
        text("the one before is gone", Due.read(x), "d=m17");
        is("its second step too", x.step(1, 0), UNKNOWN);
    }

    private static void signsAreGone() {
        sentence("THE CODE is the signs' (they are gone then): STEPS.");
        FewerSteps x = Due.with("a=b;c=d");
        is("told(1)", x.told(1), 0);
        is("wipe()", x.wipe(), 0);
        is("code() once more", x.code(), NO);
        text("the code stays", Due.read(x), "a=b;c=d");
    }

    private static void oneToTwelveSteps() {
        sentence("1 to 12 STEPS with a ; between two");
        for (int many = 1; many <= 12; many++) {
            FewerSteps x = new FewerSteps();
            Due.say(x, "a=b;".repeat(many - 1) + "a=b");
            is("code() of " + many, x.code(), many);
        }
        FewerSteps x = new FewerSteps();
        Due.say(x, "a=+bc;".repeat(11) + "d=+bc");
        is("the longest text", x.code(), 12);
        is("its last step", x.step(11, 0), 3);
    }

    private static void refusedCode(String text) {
        FewerSteps x = Due.with("a=b;b=+c1");
        Due.say(x, text);
        refused(x, "code() of \"" + text + "\"", x::code, NO);
        is("signs stay", x.told(1), text.length());
    }

    private static void refusesFaults() {
        sentence("NO: there is a FAULT.");
        refusedCode("");
        refusedCode("a");
        refusedCode("a=");
        refusedCode("a=+");
        refusedCode("a=+b");
        refusedCode("a=b;");
        refusedCode("a=b;a=8");
        refusedCode("a=bc");
        refusedCode("a=b>");
        refusedCode("a=b>a=c");
        refusedCode(TWELVE + ";");
        refusedCode(TWELVE + ";a=1");
        refusedCode("a".repeat(80));
        FewerSteps x = new FewerSteps();
        Due.say(x, "a=");
        is("a fault", x.code(), NO);
        x.say('c');
        is("what was missing comes", x.code(), 1);
        text("the code", Due.read(x), "a=c");
    }

    private static void nothingElseChanges() {
        sentence("THE CODE is the signs' (they are gone then): STEPS.");
        FewerSteps x = Due.with("a=b", 6);
        x.keep();
        x.set(0, 3);
        x.set(4, 5);
        Due.rule(x, "a=b>");
        Due.code(x, "a=1;b=2");
        int[] then = {2, 0, 6, 1, 3, 1, 1, 1, 5, 1};
        for (int what = 0; what < then.length; what++) {
            is("told(" + what + ")", x.told(what), then[what]);
        }
        is("the rule stays", x.fits(0), NONE);
    }
}

/** Promise 28: rule. */
public final class Promise28Test extends Promise {
    public static void main(String[] args) {
        begin(28);
        numberedFrom0();
        signsAreGone();
        refusesFaults();
        leftAndRight();
        fourAtMost();
        noComesAheadOfFull();
        end();
    }

    private static FewerSteps withFour() {
        FewerSteps x = Due.with("a=1;b=2;c=3;d=4");
        for (int n = 1; n <= 4; n++) {
            Due.rule(x, "a=" + n + ">");
        }
        return x;
    }

    private static void numberedFrom0() {
        sentence("RULES, 4 at most, numbered from 0 on");
        FewerSteps x = Due.with("a=1;b=2;c=3;d=4");
        for (int n = 0; n < 4; n++) {
            Due.say(x, "a=" + (n + 1) + ">");
            is("its number", x.rule(), n);
            is("told(3)", x.told(3), n + 1);
            is("it is the one of that number", x.fits(n), n);
        }
        for (int n = 0; n < 4; n++) {
            is("rule " + n + " stays what it is", x.fits(n), n);
        }
        x.free();
        Due.say(x, "a=4>");
        is("from 0 on once they are free", x.rule(), 0);
    }

    private static void signsAreGone() {
        sentence("The signs are a RULE (they are gone then): its number.");
        FewerSteps x = Due.with("c=d");
        Due.rule(x, "a=b>a=c");
        is("told(1)", x.told(1), 0);
        is("rule() once more", x.rule(), NO);
        text("the code stays", Due.read(x), "c=d");
        is("fits", x.fits(0), 0);
    }

    private static void refusedRule(String text) {
        FewerSteps x = Due.with("a=b;b=+c1");
        Due.rule(x, "a=b>");
        Due.say(x, text);
        refused(x, "rule() of \"" + text + "\"", x::rule, NO);
        is("signs stay", x.told(1), text.length());
    }

    private static void refusesFaults() {
        sentence("NO: there is a FAULT");
        refusedRule("");
        refusedRule("a=b");
        refusedRule("a=b;a=c");
        refusedRule(">");
        refusedRule(">a=b");
        refusedRule("a=b;>");
        refusedRule("a=b>;");
        refusedRule("a=b>a");
        refusedRule("a=b>a=");
        refusedRule("a=b>a=c;");
        refusedRule("a=b>a=c>");
        refusedRule("a=b;a=b;a=b;a=b>");
        refusedRule("a=b>a=b;a=b;a=b;a=b");
        refusedRule("a".repeat(80));
    }

    private static void leftAndRight() {
        sentence("a CODE (LEFT) of 1 to 3 STEPS and another one (RIGHT) of 0 to 3");
        for (int left = 1; left <= 3; left++) {
            for (int right = 0; right <= 3; right++) {
                FewerSteps x = Due.with("a=1;a=1;a=1;b=2");
                String lefts = "a=1;".repeat(left - 1) + "a=1";
                String rights = right == 0 ? "" : "a=3;".repeat(right - 1) + "a=3";
                Due.say(x, lefts + ">" + rights);
                is("rule() of " + left + " and " + right, x.rule(), 0);
                is("steps then", x.replace(0), 4 - left + right);
            }
        }
        FewerSteps x = new FewerSteps();
        Due.say(x, "a=+bc;a=+bc;a=+bc>a=+bc;a=+bc;a=+bc");
        is("the longest text", x.rule(), 0);
    }

    private static void fourAtMost() {
        sentence("FULL.");
        FewerSteps x = withFour();
        Due.say(x, "a=b>");
        refused(x, "the fifth", x::rule, FULL);
        is("signs stay", x.told(1), 4);
        is("four", x.told(3), 4);
        x.free();
        is("the signs are a rule once there is room", x.rule(), 0);
    }

    private static void noComesAheadOfFull() {
        sentence("Calls that are refused answer, the first of these that fits");
        FewerSteps x = withFour();
        refused(x, "no signs when there are four", x::rule, NO);
        FewerSteps y = withFour();
        Due.say(y, "a=b");
        refused(y, "a fault when there are four", y::rule, NO);
    }
}

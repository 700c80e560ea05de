/** Promise 16: clean. */
public final class Promise16Test extends Promise {
    public static void main(String[] args) {
        begin(16);
        asItComesToBe();
        againAndAgain();
        theseInTurn();
        downToNothing();
        end();
    }

    private static void clean(String from, int wanted, String to) {
        FewerSteps x = Due.with(from, wanted);
        x.keep();
        is("clean() of " + from, x.clean(), to.isEmpty() ? 0 : to.split(";").length);
        text("clean() of " + from, Due.read(x), to);
        is("it does the same", x.unlike(), NONE);
        is("once more", x.clean(), x.told(0));
        text("nothing changes once more", Due.read(x), to);
    }

    private static void asItComesToBe() {
        sentence("CLEAN: THE CODE is as it comes to be: STEPS.");
        clean("a=3;b=+aa;c=*bd;d=c;a=-a3", 8, "c=*6d;d=c");
        clean("a=+bc;d=+cb;a=-ad", 15, "a=+bc;d=a;a=-ad");
        clean("a=a;b=b;c=+c0", 15, "c=+c0");
        clean("a=b;b=c;c=d;d=a", 15, "a=b;b=c;c=d;d=a");
        clean("a=-bb", 15, "a=-bb");
    }

    private static void againAndAgain() {
        sentence("CLEAN: again and again, till nothing changes");
        clean("a=b;c=a", 10, "");
        clean("a=1;b=+a1;c=*bb;d=-ca", 8, "d=3");
        clean("a=+bc;a=+cb;a=+bc", 1, "a=+bc");
        // each round takes the last step alone
        clean("a=+a1;".repeat(11) + "a=+a1", 8, "");
        clean("a=+a1;".repeat(11) + "d=7", 8, "d=7");
        // every step of the row is known by then
        clean("a=1;" + "a=+aa;".repeat(10) + "a=+aa", 1, "a=0");
    }

    private static void theseInTurn() {
        sentence("these in turn, each for all STEPS from the first on");
        // digits are written ahead of copies: b becomes a digit, not a copy of a
        clean("a=+12;b=+12", 3, "a=3;b=3");
        clean("a=2;b=+a0", 2, "b=2");
        // a copy of a known register becomes a digit in the next round
        clean("a=+bc;d=+cb;b=d", 3, "a=+bc;d=a;b=d");
        clean("a=5;b=a;c=b;d=c", 8, "d=5");
        // for each other order of the four one of these comes to something else
        clean("c=mad;b=mad", 2, "c=mad;b=c");
        clean("b=+00;a=c;b=+bb", 7, "a=c;b=0");
        clean("b=*00;d=m1b;a=0;c=+0c;d=m1b", 11, "b=0;a=0;d=0");
        clean("b=*0d;c=3;a=-cc;a=*da", 13, "b=*0d;c=3;a=b");
        clean("d=4;a=d;d=d", 13, "a=4;d=4");
        clean("b=*c0;a=m10;b=*ac", 15, "b=*c0;a=0");
    }

    private static void downToNothing() {
        sentence("4 DEAD STEPS go, and copies of a REGISTER to itself");
        is("an empty code", new FewerSteps().clean(), 0);
        clean("a=a", 15, "");
        clean("a=a;b=b;c=c;d=d", 15, "");
        clean(TWELVE, 2, "");
        clean(TWELVE, 1, "a=1");
    }
}

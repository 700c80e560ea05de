/** Promise 9: keep. */
public final class Promise09Test extends Promise {
    public static void main(String[] args) {
        begin(9);
        tellsSteps();
        isApartFromTheCode();
        end();
    }

    private static void tellsSteps() {
        sentence("THE CODE is kept as THE OTHER one: STEPS.");
        is("an empty code", new FewerSteps().keep(), 0);
        for (int many = 1; many <= 12; many++) {
            FewerSteps x = Due.with("a=+a1;".repeat(many - 1) + "a=+a1");
            is("keep() of " + many, x.keep(), many);
            is("told(9)", x.told(9), many);
            is("told(0)", x.told(0), many);
            is("unlike()", x.unlike(), NONE);
        }
        FewerSteps x = Due.with(TWELVE);
        x.keep();
        Due.code(x, "");
        is("an empty code in the place of twelve steps", x.keep(), 0);
        is("told(9)", x.told(9), 0);
        Due.code(x, "a=1");
        is("the steps before are gone", x.unlike(), 0);
    }

    private static void isApartFromTheCode() {
        sentence("THE CODE is kept as THE OTHER one: STEPS.");
        FewerSteps x = Due.with("a=5;b=+a1");
        x.keep();
        text("the code stays", Due.read(x), "a=5;b=+a1");
        Due.code(x, "a=6");
        is("the other one stays when the code is another", x.told(9), 2);
        is("and does what it did", x.unlike(), 0);
        Due.code(x, "a=5;b=6");
        is("as this one does", x.unlike(), NONE);
        FewerSteps y = Due.with("a=5;b=+a1", 2);
        y.keep();
        y.clean();
        text("a mended code", Due.read(y), "b=6");
        is("the other one is not mended", y.told(9), 2);
        y.want(15);
        is("it has a step of a", y.unlike(), 0);
    }
}

/** Promise 35: image. */
public final class Promise35Test extends Promise {
    public static void main(String[] args) {
        begin(35);
        allButSigns();
        signsAreNotKept();
        twoImages();
        keptOnceMore();
        refusesOther();
        end();
    }

    private static void allButSigns() {
        sentence("All but signs is kept in an IMAGE (0, 1): 1.");
        for (int n = 0; n <= 1; n++) {
            FewerSteps x = Due.with("a=b;b=+c1", 5);
            x.keep();
            x.set(0, 3);
            x.set(4, 5);
            Due.rule(x, "a=b>");
            String before = Due.state(x);
            Due.say(x, "a=b");
            is("image(" + n + ")", x.image(n), 1);
            is("signs stay", x.told(1), 3);
            x.wipe();
            text("the state stays", Due.state(x), before);
            is("a new object's", new FewerSteps().image(n), 1);
        }
    }

    private static void signsAreNotKept() {
        sentence("All but signs is kept in an IMAGE (0, 1): 1.");
        FewerSteps x = Due.with("a=b");
        Due.say(x, "c=1;");
        x.image(0);
        Due.say(x, "d=2");
        x.restore(0);
        is("signs said since", x.told(1), 3);
        is("they are a code", x.code(), 1);
        text("the code", Due.read(x), "d=2");
        Due.say(x, "z");
        x.wipe();
        x.restore(0);
        is("signs that went", x.told(1), 0);
    }

    private static void twoImages() {
        sentence("All but signs is kept in an IMAGE (0, 1): 1.");
        FewerSteps x = Due.with("a=1", 1);
        x.image(0);
        Due.code(x, "b=2;b=3");
        x.want(2);
        x.image(1);
        Due.code(x, "c=4");
        x.restore(0);
        text("the first one", Due.read(x), "a=1");
        is("its wanted ones", x.told(2), 1);
        x.restore(1);
        text("the second one", Due.read(x), "b=2;b=3");
        is("its wanted ones", x.told(2), 2);
        x.restore(0);
        text("the first one again", Due.read(x), "a=1");
        FewerSteps y = new FewerSteps();
        y.image(1);
        is("the one that was not kept", y.restore(0), STATE);
    }

    private static void keptOnceMore() {
        sentence("All but signs is kept in an IMAGE (0, 1): 1.");
        FewerSteps x = Due.with(TWELVE);
        x.image(0);
        Due.code(x, "b=2");
        is("kept once more", x.image(0), 1);
        Due.code(x, "c=4");
        x.restore(0);
        text("the later one counts", Due.read(x), "b=2");
    }

    private static void refusesOther() {
        sentence("OUTSIDE.");
        refusedBeyond(() -> Due.with("a=b"), "image", 0, 1, FewerSteps::image, OUTSIDE);
        FewerSteps x = Due.with("a=b");
        x.image(2);
        x.image(-1);
        is("a refused one keeps nothing", x.restore(0), STATE);
        is("a refused one keeps nothing", x.restore(1), STATE);
    }
}

import java.util.ArrayList;
import java.util.Arrays;
import java.util.List;
import java.util.Random;

/** Drawn codes and rules: each answer against the one of Model. The draws are the same in every run. */
public final class ModelTest {
    private static final int NONE = -6;
    private static final Due due = new Due();
    private static final int MANY = Integer.getInteger("many", 1);

    public static void main(String[] args) {
        Random random = new Random(4711);
        for (int n = 0; n < 600 * MANY; n++) {
            facts(random);
        }
        for (int n = 0; n < 250 * MANY; n++) {
            orders(random);
        }
        for (int n = 0; n < 60 * MANY; n++) {
            values(random);
        }
        for (int n = 0; n < 60 * MANY; n++) {
            spills(random);
        }
        for (int n = 0; n < 800 * MANY; n++) {
            rules(random);
        }
        for (int n = 0; n < 25 * MANY; n++) {
            shortests(random);
        }
        for (int n = 0; n < 120 * MANY; n++) {
            fewMoves(random);
        }
        due.end();
    }

    private static void facts(Random random) {
        List<String> steps = Draw.steps(random, 0, 12, 2 + random.nextInt(3));
        int wanted = 1 + random.nextInt(15);
        String at = " of " + Draw.text(steps) + " wanted " + wanted;
        FewerSteps x = Due.with(Draw.text(steps));
        x.want(wanted);
        for (int n = 0; n < 5; n++) {
            int row = random.nextInt(4096);
            int many = random.nextInt(steps.size() + 1);
            due.is("run(" + row + ", " + many + ")" + at, x.run(row, many), Model.run(steps, row, many));
        }
        int[][] sorts = Model.sorts(steps);
        for (int place = 0; place <= steps.size(); place++) {
            due.is("live(" + place + ")" + at, x.live(place), Model.live(steps, wanted, place));
            for (int r = 0; r < 4; r++) {
                due.is("known(" + place + ", " + r + ")" + at, x.known(place, r), Model.known(steps, place, r));
                due.is("sort(" + place + ", " + r + ")" + at, x.sort(place, r), sorts[place][r]);
            }
        }
        due.is("bad(0)" + at, x.bad(0), Model.dead(steps, wanted));
        due.is("bad(1)" + at, x.bad(1), Model.needless(steps));
        x.keep();
        x.image(0);
        List<String> clean = Model.clean(steps, wanted);
        due.is("clean" + at, x.clean(), clean.size());
        due.text("clean" + at, Due.read(x), Draw.text(clean));
        due.is("unlike" + at, x.unlike(), NONE);
        for (int which = 1; which <= 4; which++) {
            x.restore(0);
            mend(x, steps, wanted, which);
        }
        List<String> other = Draw.steps(random, 0, 4, 4);
        Due.code(x, Draw.text(other));
        due.is("unlike" + at + " and " + Draw.text(other), x.unlike(), Model.unlike(other, steps, wanted));
    }

    private static void mend(FewerSteps x, List<String> steps, int wanted, int which) {
        List<String> mended = Model.mend(steps, wanted, which);
        int changed = 0;
        for (int i = 0; i < steps.size() && which < 4; i++) {
            changed += steps.get(i).equals(mended.get(i)) ? 0 : 1;
        }
        String at = "mend(" + which + ") of " + Draw.text(steps) + " wanted " + wanted;
        due.is(at, x.mend(which), which == 4 ? steps.size() - mended.size() : changed);
        due.text(at, Due.read(x), Draw.text(mended));
    }

    private static int[] drawSettings(Random random, FewerSteps x) {
        int[] settings = {1 + random.nextInt(3), 1 + random.nextInt(5), 1 + random.nextInt(5), 1 + random.nextInt(5), 1 + random.nextInt(5)};
        for (int which = 0; which < 5; which++) {
            x.set(which, settings[which]);
        }
        return settings;
    }

    private static void orders(Random random) {
        List<String> steps = Draw.steps(random, 0, random.nextBoolean() ? 8 : 12, 4);
        FewerSteps x = Due.with(Draw.text(steps));
        int[] settings = drawSettings(random, x);
        String at = " of " + Draw.text(steps) + " by " + Arrays.toString(settings);
        for (int i = 0; i < steps.size(); i++) {
            due.is("behind(" + i + ")" + at, x.behind(i), Model.behind(steps, i));
        }
        due.is("orders" + at, x.orders(), Model.orders(Model.behinds(steps)).size());
        int[] ticks = Model.ticks(steps, Model.asWritten(steps), settings);
        for (int i = 0; i < steps.size(); i++) {
            due.is("tick(" + i + ")" + at, x.tick(i), ticks[i]);
        }
        due.is("time" + at, x.time(), ticks[steps.size()]);
        if (steps.size() > 8) {
            due.is("quickest" + at, x.quickest(-1), -3);
            return;
        }
        int[] quickest = Model.quickest(steps, settings);
        due.is("quickest(-1)" + at, x.quickest(-1), quickest[steps.size()]);
        for (int i = 0; i < steps.size(); i++) {
            due.is("quickest(" + i + ")" + at, x.quickest(i), quickest[i]);
        }
    }

    private static void values(Random random) {
        List<String> steps = Draw.steps(random, 0, 8, 4);
        int wanted = 1 + random.nextInt(15);
        FewerSteps x = Due.with(Draw.text(steps));
        x.want(wanted);
        String at = " of " + Draw.text(steps) + " wanted " + wanted;
        int[] fewest = Model.fewest(steps, wanted);
        due.is("fewest(-1)" + at, x.fewest(-1), fewest[steps.size()]);
        for (int i = 0; i < steps.size(); i++) {
            due.is("fewest(" + i + ")" + at, x.fewest(i), fewest[i]);
        }
    }

    private static void spills(Random random) {
        List<String> steps = Draw.steps(random, 0, 12, 4);
        int wanted = 1 + random.nextInt(15);
        FewerSteps x = Due.with(Draw.text(steps));
        x.want(wanted);
        String at = " of " + Draw.text(steps) + " wanted " + wanted;
        for (int i = 0; i < steps.size(); i++) {
            for (int k = 0; k < 2; k++) {
                due.is("reads(" + i + ", " + k + ")" + at, x.reads(i, k), Model.reads(steps, i, k));
            }
        }
        int[] held = Model.held(steps, wanted, Model.asWritten(steps));
        for (int place = 0; place <= steps.size(); place++) {
            due.is("held(" + place + ")" + at, x.held(place), held[place]);
        }
        due.is("width" + at, x.width(), Model.width(held));
        for (int k = 1; k <= 4; k++) {
            due.is("spill(" + k + ")" + at, x.spill(k), Model.spill(steps, wanted, k));
        }
    }

    private static void rules(Random random) {
        int registers = 2 + random.nextInt(3);
        List<String> steps = Draw.steps(random, 0, 12, registers);
        FewerSteps x = Due.with(Draw.text(steps));
        List<List<String>> lefts = new ArrayList<>();
        List<List<String>> rights = new ArrayList<>();
        int many = 1 + random.nextInt(4);
        for (int n = 0; n < many; n++) {
            List<String> left = Draw.steps(random, 1, 3, 3);
            if (!steps.isEmpty() && random.nextInt(4) > 0) {
                int from = random.nextInt(steps.size());
                int to = Math.min(steps.size(), from + 1 + random.nextInt(3));
                left = Model.rename(steps.subList(from, to), Model.namings().get(random.nextInt(24)));
            }
            List<String> right = Draw.steps(random, 0, 3, 4);
            lefts.add(left);
            rights.add(right);
            Due.rule(x, Draw.text(left) + ">" + Draw.text(right));
        }
        x.image(0);
        for (int n = 0; n < many; n++) {
            String at = " of " + Draw.text(lefts.get(n)) + ">" + Draw.text(rights.get(n)) + " in " + Draw.text(steps);
            due.is("holds" + at, x.holds(n), Model.unlike(lefts.get(n), rights.get(n), 15) == NONE ? 1 : 0);
            int fits = Model.fits(steps, lefts.get(n));
            due.is("fits" + at, x.fits(n), fits);
            int then = steps.size() - lefts.get(n).size() + rights.get(n).size();
            if (fits == NONE) {
                due.is("replace" + at, x.replace(n), -3);
            } else if (then > 12) {
                due.is("replace" + at, x.replace(n), -4);
            } else {
                due.is("replace" + at, x.replace(n), then);
                due.text("replace" + at, Due.read(x), Draw.text(Model.replace(steps, lefts.get(n), rights.get(n))));
                x.restore(0);
            }
        }
        List<String> gone = Model.go(steps, lefts, rights);
        String at = " of " + lefts + " " + rights + " in " + Draw.text(steps);
        due.is("go" + at, x.go(), Integer.parseInt(gone.get(gone.size() - 1)));
        due.text("go" + at, Due.read(x), Draw.text(gone.subList(0, gone.size() - 1)));
    }

    private static void shortest(List<String> steps, int wanted) {
        FewerSteps x = Due.with(Draw.text(steps));
        x.want(wanted);
        List<Integer> moves = Model.shortest(steps, wanted);
        String at = " of " + Draw.text(steps) + " wanted " + wanted;
        due.is("shortest(-1)" + at, x.shortest(-1), moves == null ? NONE : moves.size());
        for (int i = 0; i < 4; i++) {
            due.is("shortest(" + i + ")" + at, x.shortest(i), moves == null || i >= moves.size() ? NONE : moves.get(i));
        }
    }

    private static void shortests(Random random) {
        shortest(Draw.steps(random, 0, 4, 2), 1 + random.nextInt(3));
    }

    /** Codes that one or two moves can do, by way of longer ones. */
    private static void fewMoves(Random random) {
        List<String> steps = new ArrayList<>();
        int many = 1 + random.nextInt(2);
        for (int i = 0; i < many; i++) {
            steps.add(Draw.step(random, 2, 2));
        }
        steps.add("a=+a0");
        shortest(steps, 1 + random.nextInt(3));
    }
}

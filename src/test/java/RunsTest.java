import java.lang.reflect.Method;
import java.util.Arrays;
import java.util.HashMap;
import java.util.List;
import java.util.Map;
import java.util.Random;
import java.util.TreeMap;
import java.util.TreeSet;

/** Drawn runs of 512 calls on one object, each answer against that of Plain, which holds the whole state once more. */
public final class RunsTest {
    private static final int CALLS = 512;
    private static final Due due = new Due();
    private static final int[] WILD = {Integer.MIN_VALUE, -100, -7, 14, 17, 127, 4096, Integer.MAX_VALUE};
    // Calls that change the code come up less often, and so do those that Model is slow at.
    private static final String[] OFTEN = ("fault step step run unlike live bad known known known sort sort mend behind set tick tick time "
        + "reads reads held held width holds fits fits replace replace image restore told want keep").split(" ");
    private static final String[] SELDOM = "orders quickest fewest spill shortest clean go free say wipe code rule".split(" ");
    private static final Map<String, Method> METHODS = new HashMap<>();
    private static final Map<String, TreeSet<Integer>> ANSWERS = new TreeMap<>();

    private final Random random;
    private final FewerSteps x = new FewerSteps();
    private final Plain plain = new Plain();
    private final StringBuilder told = new StringBuilder();
    private int calls;

    private RunsTest(long seed) {
        random = new Random(seed);
        told.append("seed ").append(seed).append(':');
    }

    public static void main(String[] args) throws Exception {
        for (Method method : FewerSteps.class.getDeclaredMethods()) {
            METHODS.put(method.getName(), method);
        }
        long first = Long.getLong("seed", 1000);
        for (int n = 0; n < Integer.getInteger("many", 250); n++) {
            new RunsTest(first + n).drawRun();
        }
        drawsReachFar();
        due.end();
    }

    /** Draws that are mostly refused would test nothing: each call must have given answers of several kinds. */
    private static void drawsReachFar() {
        String[] kinds = {"fault -6 -2 0 5", "code -5 1 12", "rule -5 -4 0 3", "step -6 -2 -1 0 17", "unlike -6 0", "known -6 -1 0 7",
            "sort -1 0 9", "replace -4 -3 -1 0 12", "go 0 20", "shortest -6 -3 0 1 2 3", "quickest -6 -3 0 8", "fewest -6 -3 0 4",
            "spill -2 0 1 3", "restore -3 -2 1", "holds -1 0 1", "fits -6 -1 0 5", "mend -2 0 4", "clean 0 1 5", "reads -6 -2 -1 0 12",
            "want -2 1 15", "say -4 -2 1 80", "set -2 1 5", "told -2 0 9", "tick -1 0 9", "behind -1 0 7", "orders 1 2 6"};
        for (String kind : kinds) {
            String[] parts = kind.split(" ");
            for (int n = 1; n < parts.length; n++) {
                due.holds(parts[0] + " answered " + parts[n] + " once", ANSWERS.get(parts[0]).contains(Integer.parseInt(parts[n])));
            }
        }
    }

    private void drawRun() throws Exception {
        while (calls < CALLS) {
            sayAnd(codeText(), "code");
            if (random.nextBoolean()) {
                call("want", 1 + random.nextInt(random.nextBoolean() ? 3 : 15), 0);
            }
            int rules = random.nextInt(3);
            for (int n = 0; n < rules; n++) {
                sayAnd(ruleText(), "rule");
            }
            int asks = 20 + random.nextInt(60);
            for (int n = 0; n < asks; n++) {
                String[] names = random.nextInt(6) == 0 ? SELDOM : OFTEN;
                String name = names[random.nextInt(names.length)];
                call(name, number(firstRange(name)), number(secondRange(name)));
            }
        }
    }

    private int number(int[] range) {
        int kind = random.nextInt(40);
        if (kind == 0) {
            return WILD[random.nextInt(WILD.length)];
        }
        int least = range[0] - (kind == 1 ? 1 : 0);
        int most = range[1] + (kind == 2 ? 1 : 0);
        return least + random.nextInt(Math.max(1, most - least + 1));
    }

    /** The least and the most number that a call takes, as the state is. */
    private int[] firstRange(String name) {
        int steps = plain.steps().size();
        switch (name) {
            case "say": return new int[] {33, 126};
            case "want": return new int[] {1, 15};
            case "run": return new int[] {0, 4095};
            case "live": case "known": case "sort": case "held": return new int[] {0, steps};
            case "step": case "behind": case "tick": case "reads": return new int[] {0, steps - 1};
            case "quickest": case "fewest": return new int[] {-1, steps};
            case "mend": return new int[] {1, 4};
            case "set": return new int[] {0, 4};
            case "spill": return new int[] {1, random.nextInt(4) == 0 ? 8 : 4};
            case "holds": case "fits": case "replace": return new int[] {0, plain.call("told", 3, 0) - 1};
            case "shortest": return new int[] {-1, 3};
            case "told": return new int[] {0, 9};
            default: return new int[] {0, 1};
        }
    }

    private int[] secondRange(String name) {
        switch (name) {
            case "run": return new int[] {0, plain.steps().size()};
            case "set": return new int[] {1, 5};
            case "reads": return new int[] {0, 1};
            default: return new int[] {0, 3};
        }
    }

    private void sayAnd(String text, String then) throws Exception {
        if (random.nextInt(8) > 0) {
            call("wipe", 0, 0);
        }
        for (char sign : text.toCharArray()) {
            call("say", sign, 0);
        }
        if (random.nextInt(4) == 0) {
            call("fault", random.nextInt(2), 0);
        }
        call(then, 0, 0);
    }

    private String codeText() {
        int most = random.nextInt(3) == 0 ? 12 : 6;
        return maybeBroken(Draw.text(Draw.steps(random, 1, most, 2 + random.nextInt(3))));
    }

    /** Mostly the left side stands in the code under other names. */
    private String ruleText() {
        List<String> steps = plain.steps();
        List<String> left = Draw.steps(random, 1, 3, 3);
        if (!steps.isEmpty() && random.nextInt(4) > 0) {
            int from = random.nextInt(steps.size());
            int to = Math.min(steps.size(), from + 1 + random.nextInt(2));
            left = Model.rename(steps.subList(from, to), Model.namings().get(random.nextInt(24)));
        }
        List<String> right = random.nextInt(4) == 0 ? left : Draw.steps(random, 0, 3, 4);
        return maybeBroken(Draw.text(left) + ">" + Draw.text(right));
    }

    private String maybeBroken(String text) {
        if (random.nextInt(8) > 0) {
            return text;
        }
        StringBuilder broken = new StringBuilder(text);
        String signs = "abcd07=;>+-*m8e~!";
        broken.setCharAt(random.nextInt(text.length()), signs.charAt(random.nextInt(signs.length())));
        return broken.toString();
    }

    private void call(String name, int one, int two) throws Exception {
        if (calls == CALLS) {
            return;
        }
        calls++;
        Method method = METHODS.get(name);
        Object[] given = Arrays.copyOf(new Object[] {one, two}, method.getParameterCount());
        told.append(' ').append(name).append(Arrays.toString(given));
        int answer = (Integer) method.invoke(x, given);
        int want = plain.call(name, one, two);
        ANSWERS.computeIfAbsent(name, none -> new TreeSet<>()).add(want);
        due.is(answer == want ? "" : told.toString(), answer, want);
    }
}

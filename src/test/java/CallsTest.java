import java.util.Random;

/** Drawn runs of calls with wild numbers: none throws, a refused one changes nothing, the same calls answer the same. */
public final class CallsTest {
    private static final Due due = new Due();
    private static final int[] WILD = {Integer.MIN_VALUE, -1000000, -7, -2, -1, 4, 5, 9, 12, 13, 16, 17, 64, 1 << 20, 4096, Integer.MAX_VALUE};
    private static final String SIGNS = "aabbccdd====;;;>+-*m01267mz!";
    private static final String[] TEXTS = {"a=b", "a=+bc;b=-a3", "c=*dd;d=c;c=1;a=+cd", "a=1;a=1;a=1;a=1;a=1;a=1;a=1;a=1;a=1;a=1;a=1;a=1",
        "a=b>", "a=1>b=1;a=b", "a=+bc>a=+cb", "a=b;b=a>a=b", "a=mab;b=-b1;a=5", "d=2;c=+dd;b=*cd;a=mbc;d=-ab;c=d;b=c;a=+a1"};

    public static void main(String[] args) {
        for (int seed = 0; seed < 300; seed++) {
            String once = drawRun(seed, true);
            due.text("run " + seed + " once more", drawRun(seed, false), once);
        }
        due.end();
    }

    /** The answers of up to 512 calls that this seed draws. */
    private static String drawRun(int seed, boolean watched) {
        Random random = new Random(seed);
        FewerSteps x = new FewerSteps();
        StringBuilder answers = new StringBuilder();
        int calls = 0;
        while (calls < 400) {
            if (random.nextInt(4) == 0) {
                String text = TEXTS[random.nextInt(TEXTS.length)];
                Due.say(x, text);
                calls += text.length() + 1;
            }
            int which = random.nextInt(36);
            int one = number(random);
            int two = number(random);
            String before = watched ? Due.state(x) : "";
            int answer = call(x, which, one, two);
            boolean refused = answer <= -1 && answer >= -5;
            if (watched && (refused || isAsking(which))) {
                due.text("seed " + seed + ": call " + which + " (" + one + ", " + two + ") answered " + answer + ": the state", Due.state(x), before);
            }
            answers.append(answer).append(' ');
            calls++;
        }
        return answers.toString();
    }

    private static int number(Random random) {
        return random.nextInt(5) == 0 ? WILD[random.nextInt(WILD.length)] : random.nextInt(4);
    }

    /** Calls that change nothing even when they are not refused. */
    private static boolean isAsking(int which) {
        return which >= 14;
    }

    private static int call(FewerSteps x, int which, int one, int two) {
        switch (which) {
            case 0: return x.say(one >= 0 && one < SIGNS.length() ? SIGNS.charAt(one * 7 % SIGNS.length()) : one);
            case 1: return x.wipe();
            case 2: return x.code();
            case 3: return x.want(one);
            case 4: return x.keep();
            case 5: return x.mend(one);
            case 6: return x.clean();
            case 7: return x.set(one, two);
            case 8: return x.rule();
            case 9: return x.free();
            case 10: return x.replace(one);
            case 11: return x.go();
            case 12: return x.image(one);
            case 13: return x.restore(one);
            default: return ask(x, which, one, two);
        }
    }

    private static int ask(FewerSteps x, int which, int one, int two) {
        switch (which) {
            case 14: return x.fault(one);
            case 15: return x.step(one, two);
            case 16: return x.run(one, two);
            case 17: return x.unlike();
            case 18: return x.live(one);
            case 19: return x.bad(one);
            case 20: return x.known(one, two);
            case 21: return x.sort(one, two);
            case 22: return x.behind(one);
            case 23: return x.orders();
            case 24: return x.tick(one);
            case 25: return x.time();
            case 26: return x.quickest(one);
            case 27: return x.reads(one, two);
            case 28: return x.held(one);
            case 29: return x.width();
            case 30: return x.fewest(one);
            case 31: return x.spill(one);
            case 32: return x.holds(one);
            case 33: return x.fits(one);
            case 34: return x.shortest(one);
            default: return x.told(one);
        }
    }
}

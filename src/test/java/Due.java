/** Counts and prints answers that are not as due; makes codes out of texts. */
final class Due {
    private int wrong = 0;
    private int asked = 0;

    void is(String what, long got, long want) {
        asked++;
        if (got != want) {
            wrong++;
            if (wrong <= 40) {
                System.out.println(what + " answered " + got + ", due is " + want);
            }
        }
    }

    void text(String what, String got, String want) {
        asked++;
        if (!got.equals(want)) {
            wrong++;
            if (wrong <= 40) {
                System.out.println(what + " is \"" + got + "\", due is \"" + want + "\"");
            }
        }
    }

    void holds(String what, boolean it) {
        is(what, it ? 1 : 0, 1);
    }

    int asked() {
        return asked;
    }

    void end() {
        System.out.println(asked + " answers, " + wrong + " of them wrong");
        if (wrong != 0 || asked == 0) {
            System.exit(1);
        }
    }

    static void say(FewerSteps x, String text) {
        x.wipe();
        for (int i = 0; i < text.length(); i++) {
            x.say(text.charAt(i));
        }
    }

    /** A new object whose code is this text; an empty text leaves it empty. */
    static FewerSteps with(String text) {
        FewerSteps x = new FewerSteps();
        code(x, text);
        return x;
    }

    /** The same, with these registers wanted. */
    static FewerSteps with(String text, int wanted) {
        FewerSteps x = with(text);
        x.want(wanted);
        return x;
    }

    /** An empty code can not be said: a rule that takes its step away makes one. */
    static void code(FewerSteps x, String text) {
        if (text.isEmpty()) {
            x.free();
            say(x, "a=a>");
            x.rule();
            say(x, "a=a");
            x.code();
            x.go();
            x.free();
        } else {
            say(x, text);
            if (x.code() < 1) {
                throw new IllegalStateException("no code: " + text);
            }
        }
    }

    static void rule(FewerSteps x, String text) {
        say(x, text);
        if (x.rule() < 0) {
            throw new IllegalStateException("no rule: " + text);
        }
    }

    /** The code as a text, by what step() tells. */
    static String read(FewerSteps x) {
        StringBuilder text = new StringBuilder();
        for (int i = 0; i < x.told(0); i++) {
            if (i > 0) {
                text.append(';');
            }
            text.append((char) ('a' + x.step(i, 0))).append('=');
            if (x.step(i, 1) != FewerSteps.NONE) {
                text.append((char) x.step(i, 1));
            }
            for (int what = 2; what <= 3; what++) {
                int operand = x.step(i, what);
                if (operand != FewerSteps.NONE) {
                    text.append((char) (operand >= 10 ? '0' + operand - 10 : 'a' + operand));
                }
            }
        }
        return text.toString();
    }

    /** All that can be asked without changing anything. */
    static String state(FewerSteps x) {
        StringBuilder text = new StringBuilder(read(x));
        for (int what = 0; what <= 9; what++) {
            text.append(' ').append(x.told(what));
        }
        text.append(' ').append(x.fault(0)).append(' ').append(x.fault(1)).append(' ').append(x.unlike());
        for (int n = 0; n < 4; n++) {
            text.append(' ').append(x.holds(n)).append(' ').append(x.fits(n));
        }
        return text.toString();
    }
}

/** Promises 1 to 10, and 35 to 37. */
public final class CodesTest {
    private static final int UNKNOWN = -1, OUTSIDE = -2, STATE = -3, FULL = -4, NO = -5, NONE = -6;
    private static final Due due = new Due();

    public static void main(String[] args) {
        newObject();
        signs();
        faultsOfCodes();
        faultsOfRules();
        codes();
        wants();
        steps();
        runs();
        keepsAndUnlikes();
        images();
        tolds();
        due.end();
    }

    private static void newObject() {
        FewerSteps x = new FewerSteps();
        int[] first = {0, 0, 15, 0, 1, 1, 1, 1, 1, 0};
        for (int what = 0; what < first.length; what++) {
            due.is("1: told(" + what + ")", x.told(what), first[what]);
        }
        due.is("1: unlike", x.unlike(), NONE);
        due.is("1: time", x.time(), 0);
        due.is("1: width", x.width(), 4);
        due.is("1: step", x.step(0, 0), UNKNOWN);
        due.is("1: fits", x.fits(0), UNKNOWN);
        due.is("1: restore", x.restore(0), STATE);
    }

    private static void signs() {
        FewerSteps x = new FewerSteps();
        due.is("2: below", x.say(32), OUTSIDE);
        due.is("2: above", x.say(127), OUTSIDE);
        due.is("2: least", x.say(33), 1);
        due.is("2: most", x.say(126), 2);
        due.is("2: far below", x.say(Integer.MIN_VALUE), OUTSIDE);
        for (int n = 3; n <= 80; n++) {
            due.is("2: sign " + n, x.say('a'), n);
        }
        due.is("2: full", x.say('a'), FULL);
        due.is("2: outside ahead of full", x.say(0), OUTSIDE);
        due.is("2: a refused sign is not there", x.told(1), 80);
        due.is("3: wipe", x.wipe(), 80);
        due.is("3: wipe again", x.wipe(), 0);
        due.is("3: gone", x.told(1), 0);
        due.is("3: say again", x.say('a'), 1);
    }

    private static void fault(int how, String text, int want) {
        FewerSteps x = new FewerSteps();
        Due.say(x, text);
        due.is("4: fault(" + how + ") of " + text, x.fault(how), want);
        due.is("4: signs stay", x.told(1), text.length());
        if (how == 0) {
            due.is("5: code of " + text, x.code() > 0 ? 1 : 0, want == NONE ? 1 : 0);
        } else {
            due.is("28: rule of " + text, x.rule(), want == NONE ? 0 : NO);
        }
        due.is("5, 28: signs are gone, unless there was a fault", x.told(1), want == NONE ? 0 : text.length());
    }

    private static void faultsOfCodes() {
        FewerSteps x = new FewerSteps();
        due.is("4: how", x.fault(2), OUTSIDE);
        due.is("4: how", x.fault(-1), OUTSIDE);
        fault(0, "", 0);
        fault(0, "a", 1);
        fault(0, "a=", 2);
        fault(0, "a=+", 3);
        fault(0, "a=+b", 4);
        fault(0, "a=+bc", NONE);
        fault(0, "a=b", NONE);
        fault(0, "d=7", NONE);
        fault(0, "d=8", 2);
        fault(0, "e=1", 0);
        fault(0, "3=1", 0);
        fault(0, "m=1", 0);
        fault(0, "a+1", 1);
        fault(0, "a==", 2);
        fault(0, "a=/ab", 2);
        fault(0, "a=m0d", NONE);
        fault(0, "a=mm1", 3);
        fault(0, "a=-a=", 4);
        fault(0, "a=bc", 3);
        fault(0, "a=+bcd", 5);
        fault(0, "a=b;", 4);
        fault(0, "a=b;;", 4);
        fault(0, ";", 0);
        fault(0, "a=b>a=c", 3);
        fault(0, "a=b;c=*d2;b=-07", NONE);
        String eleven = "a=b;".repeat(11);
        fault(0, eleven, 44);
        fault(0, eleven + "a=b", NONE);
        fault(0, eleven + "a=b;", 47);
        fault(0, eleven + "a=b;a=b", 47);
        fault(0, "a=+bc;".repeat(11) + "a=+bc", NONE);
        fault(0, "a=+bc;".repeat(11) + "a=+bc;!", 71);
        fault(0, "a=B", 2);
    }

    private static void faultsOfRules() {
        fault(1, "", 0);
        fault(1, "a=b", 3);
        fault(1, "a=b>", NONE);
        fault(1, ">a=b", 0);
        fault(1, "a=b>a=c", NONE);
        fault(1, "a=b;>a=c", 4);
        fault(1, "a=b>;", 4);
        fault(1, "a=b>>", 4);
        fault(1, "a=b>a=c>", 7);
        fault(1, "a=b>a", 5);
        fault(1, "a=b>a=c;", 8);
        fault(1, "a=b;a=b;a=b>a=b;a=b;a=b", NONE);
        fault(1, "a=b;a=b;a=b;", 11);
        fault(1, "a=b>a=b;a=b;a=b;", 15);
        fault(1, "a=+1>", 4);
        fault(1, "a=+bc;a=+bc;a=+bc>a=+bc;a=+bc;a=+bc", NONE);
    }

    private static void codes() {
        FewerSteps x = new FewerSteps();
        due.is("5: no signs", x.code(), NO);
        Due.say(x, "a=b;c=*d2");
        due.is("5: code", x.code(), 2);
        due.text("5: it is the signs'", Due.read(x), "a=b;c=*d2");
        Due.say(x, "a=");
        due.is("5: a fault", x.code(), NO);
        due.text("5: nothing changed", Due.read(x), "a=b;c=*d2");
        due.is("5: signs stay", x.told(1), 2);
        Due.say(x, "d=m17");
        due.is("5: another code", x.code(), 1);
        due.text("5: the other is gone", Due.read(x), "d=m17");
    }

    private static void wants() {
        FewerSteps x = new FewerSteps();
        due.is("6: want", x.want(1), 15);
        due.is("6: want", x.want(9), 1);
        due.is("6: want", x.want(0), OUTSIDE);
        due.is("6: want", x.want(16), OUTSIDE);
        due.is("6: want", x.want(-1), OUTSIDE);
        due.is("6: want", x.want(15), 9);
    }

    private static void steps() {
        FewerSteps x = Due.with("a=b;c=*d2;d=7;b=m0a;a=-bb");
        int[][] parts = {{0, NONE, 1, NONE}, {2, '*', 3, 12}, {3, NONE, 17, NONE}, {1, 'm', 10, 0}, {0, '-', 1, 1}};
        for (int i = 0; i < parts.length; i++) {
            for (int what = 0; what < 4; what++) {
                due.is("7: step(" + i + ", " + what + ")", x.step(i, what), parts[i][what]);
            }
        }
        due.is("7: no such step", x.step(5, 0), UNKNOWN);
        due.is("7: no such step", x.step(-1, 0), UNKNOWN);
        due.is("7: unknown ahead of outside", x.step(5, 4), UNKNOWN);
        due.is("7: outside", x.step(4, 4), OUTSIDE);
        due.is("7: outside", x.step(4, -1), OUTSIDE);
    }

    private static void runs() {
        FewerSteps x = Due.with("a=+bc;b=-a7;c=*cc;d=mdb");
        // 2 3 5 6: a = 0, b = 1, c = 1, d = 1
        int row = 2 * 512 + 3 * 64 + 5 * 8 + 6;
        due.is("8: no steps", x.run(row, 0), row);
        due.is("8: one", x.run(row, 1), 3 * 64 + 5 * 8 + 6);
        due.is("8: two", x.run(row, 2), 64 + 5 * 8 + 6);
        due.is("8: three", x.run(row, 3), 64 + 8 + 6);
        due.is("8: four", x.run(row, 4), 64 + 8 + 1);
        due.is("8: more", x.run(row, 5), OUTSIDE);
        due.is("8: less", x.run(row, -1), OUTSIDE);
        due.is("8: row", x.run(4096, 0), OUTSIDE);
        due.is("8: row", x.run(-1, 0), OUTSIDE);
        due.is("8: last row", x.run(4095, 0), 4095);
        due.is("8: an empty code", new FewerSteps().run(77, 0), 77);
        due.is("8: less than nothing is left over by 8", Due.with("a=-01").run(0, 1), 7 * 512);
        due.is("8: product", Due.with("a=*77").run(0, 1), 512);
        due.is("8: the lesser", Due.with("a=m53").run(0, 1), 3 * 512);
    }

    private static void keepsAndUnlikes() {
        FewerSteps x = Due.with("a=+bb");
        due.is("10: other is empty", x.unlike(), 64);
        due.is("9: keep", x.keep(), 1);
        due.is("9: told", x.told(9), 1);
        due.is("10: the same", x.unlike(), NONE);
        Due.code(x, "a=*b2");
        due.is("10: the same in all rows", x.unlike(), NONE);
        Due.code(x, "a=*b2;d=md6");
        due.is("10: first row", x.unlike(), 7);
        x.want(7);
        due.is("10: not wanted", x.unlike(), NONE);
        x.want(8);
        due.is("10: wanted alone", x.unlike(), 7);
        due.is("9: keep again", x.keep(), 2);
        Due.code(x, "c=m6c");
        x.want(4);
        due.is("10: in c", x.unlike(), 7 * 8);
        x.want(1);
        due.is("10: in a, other way", x.unlike(), 64);
        Due.code(x, "a=0");
        x.keep();
        Due.code(x, "a=mcd;b=ma6;a=-ab");
        due.is("10: where c and d are 7 alone", x.unlike(), 63);
        Due.code(x, "a=mab;a=mac;a=mad;b=ma6;a=-ab");
        due.is("10: in the last row alone", x.unlike(), 4095);
        Due.code(x, "b=7;a=*bb;b=0");
        x.keep();
        Due.code(x, "a=1;b=*a0");
        x.want(15);
        due.is("10: digits", x.unlike(), NONE);
        Due.code(x, "a=1");
        x.want(2);
        due.is("10: the first one of b", x.unlike(), 64);
    }

    private static void images() {
        FewerSteps x = Due.with("a=b;b=c");
        due.is("35: outside", x.image(2), OUTSIDE);
        due.is("35: outside", x.image(-1), OUTSIDE);
        due.is("36: outside", x.restore(2), OUTSIDE);
        due.is("36: outside", x.restore(-1), OUTSIDE);
        due.is("36: not kept", x.restore(1), STATE);
        x.keep();
        x.want(5);
        x.set(0, 3);
        x.set(4, 5);
        Due.rule(x, "a=b>b=a");
        Due.say(x, "zz");
        due.is("35: image", x.image(1), 1);
        due.is("36: the other one is not kept", x.restore(0), STATE);
        Due.code(x, "d=d");
        x.keep();
        x.want(8);
        x.set(0, 2);
        x.set(4, 4);
        x.free();
        Due.rule(x, "c=1>c=2;c=3");
        Due.rule(x, "c=1>");
        x.image(0);
        Due.say(x, "a=3;");
        due.is("36: restore", x.restore(1), 1);
        int[] then = {2, 4, 5, 1, 3, 1, 1, 1, 5, 2};
        for (int what = 0; what < then.length; what++) {
            due.is("36: told(" + what + ")", x.told(what), then[what]);
        }
        due.text("36: the code", Due.read(x), "a=b;b=c");
        due.is("36: the other one", x.unlike(), NONE);
        due.is("36: the rule", x.replace(0), 2);
        due.text("36: the rule's steps", Due.read(x), "b=a;b=c");
        due.is("36: again", x.restore(1), 1);
        due.text("36: what came later does not change it", Due.read(x), "a=b;b=c");
        due.is("36: the other image", x.restore(0), 1);
        due.text("36: its code", Due.read(x), "d=d");
        due.is("36: its rules", x.told(3), 2);
        due.is("36: wanted", x.told(2), 8);
        due.is("35: kept once more", x.image(1), 1);
        x.want(1);
        x.restore(1);
        due.is("35: the later one counts", x.told(2), 8);
    }

    private static void tolds() {
        FewerSteps x = Due.with("a=b;b=c;c=d");
        x.keep();
        Due.code(x, "a=b");
        Due.rule(x, "a=b>");
        x.want(6);
        for (int which = 0; which < 5; which++) {
            x.set(which, which == 0 ? 3 : which + 1);
        }
        Due.say(x, "a=b;b");
        int[] then = {1, 5, 6, 1, 3, 2, 3, 4, 5, 3};
        for (int what = 0; what < then.length; what++) {
            due.is("37: told(" + what + ")", x.told(what), then[what]);
        }
        due.is("37: outside", x.told(10), OUTSIDE);
        due.is("37: outside", x.told(-1), OUTSIDE);
        due.is("37: outside", x.told(Integer.MAX_VALUE), OUTSIDE);
    }
}

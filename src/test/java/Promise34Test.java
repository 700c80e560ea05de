/** Promise 34: shortest. */
public final class Promise34Test extends Promise {
    public static void main(String[] args) {
        begin(34);
        zeroToThreeSteps();
        whatEachStepIs();
        inWantedOnes();
        ofSeveralTheFirst();
        noThreeDo();
        noSuchOne();
        ofAAndBAlone();
        otherRegisters();
        behindOtherCodes();
        end();
    }

    private static void shortest(String code, int wanted, int... moves) {
        FewerSteps x = Due.with(code, wanted);
        is("shortest(-1) of " + code + " wanted " + wanted, x.shortest(-1), moves.length);
        for (int i = 0; i < moves.length; i++) {
            is("shortest(" + i + ") of " + code + " wanted " + wanted, x.shortest(i), moves[i]);
        }
        is("shortest(" + moves.length + ") of " + code, x.shortest(moves.length), NONE);
        text("the code stays", Due.read(x), code);
    }

    private static void zeroToThreeSteps() {
        sentence("the fewest STEPS (0 to 3) of:");
        shortest("", 1);
        shortest("", 2);
        shortest("", 3);
        shortest("a=a;b=+b0", 3);
        shortest("a=+a4;b=+b7;a=+a4;b=+b1", 3);
        shortest("a=1;b=2", 1, 0, 202);
        shortest("a=2", 1, 0, 202, 200);
        shortest("a=+ab;b=-ab;a=-ab", 3, 201, 1301, 301);
        shortest("a=7", 1, 0, 302);
        shortest("a=b;b=a;a=b;b=a;a=b;b=a;a=b;b=a;a=b;b=a;a=b;b=a", 3, 110);
    }

    private static void whatEachStepIs() {
        sentence("of the i-th 1000 times its TARGET, 100 times what it is (0 the digit 0, 1 a copy, 2 to 5 ACTS), 10 times its first OPERAND, "
                + "and the second one (0 a, 1 b, 2 the digit 1; 0 where there is none)");
        shortest("a=0", 3, 0);
        shortest("b=0", 3, 1000);
        shortest("a=b", 3, 110);
        shortest("b=a", 3, 1100);
        for (int target = 0; target <= 1; target++) {
            String head = (char) ('a' + target) + "=";
            shortest(head + "+aa", 3, 1000 * target + 200);
            shortest(head + "+ab", 3, 1000 * target + 201);
            shortest(head + "+a1", 3, 1000 * target + 202);
            shortest(head + "+bb", 3, 1000 * target + 211);
            shortest(head + "+b1", 3, 1000 * target + 212);
            shortest(head + "-ab", 3, 1000 * target + 301);
            shortest(head + "-a1", 3, 1000 * target + 302);
            shortest(head + "-ba", 3, 1000 * target + 310);
            shortest(head + "-b1", 3, 1000 * target + 312);
            shortest(head + "*aa", 3, 1000 * target + 400);
            shortest(head + "*ab", 3, 1000 * target + 401);
            shortest(head + "*bb", 3, 1000 * target + 411);
            shortest(head + "mab", 3, 1000 * target + 501);
            shortest(head + "ma1", 3, 1000 * target + 502);
            shortest(head + "mb1", 3, 1000 * target + 512);
        }
    }

    private static void inWantedOnes() {
        sentence("that come to the same in WANTED ones for all ROWS");
        shortest("a=b;b=a", 2);
        shortest("a=b;b=a", 1, 110);
        shortest("a=5;b=0", 2, 1000);
        shortest("a=-b1;b=-a1", 2, 312, 1302);
        // unlike where b is 7 alone
        shortest("b=mb7", 2);
        shortest("a=*ab;b=0", 1, 401);
    }

    private static void ofSeveralTheFirst() {
        sentence("of several the first by STEPS: a ahead of b, 0, then the copy, then ACTS + - * m, then OPERANDS in that order");
        // 0 ahead of a less a
        shortest("a=-aa", 1, 0);
        shortest("b=-bb", 2, 1000);
        // the copy ahead of b times 1, and of the lesser of b and b
        shortest("a=*b1", 1, 110);
        shortest("b=maa", 2, 1100);
        // a and a ahead of other ways to the same
        shortest("a=*a2", 1, 200);
        shortest("a=*2b", 1, 211);
        // operands a ahead of b
        shortest("a=+ba", 1, 201);
        shortest("a=*ba", 1, 401);
        shortest("a=mba", 1, 501);
        shortest("a=m1b", 1, 512);
        // a ahead of b, though either may come first
        shortest("b=0;a=0", 3, 0, 1000);
        shortest("b=a;a=+bb;b=+aa", 3, 200, 1200);
        // a as a place to count in comes ahead of b, where b alone is wanted
        shortest("b=2", 2, 0, 202, 1200);
    }

    private static void noThreeDo() {
        sentence("SHORTEST: STEPS (i = -1; NONE: no three do)");
        FewerSteps x = Due.with("a=5", 1);
        is("a=5", x.shortest(-1), NONE);
        is("it has no first step", x.shortest(0), NONE);
        is("nor a third one", x.shortest(2), NONE);
        x.want(2);
        is("b alone is wanted", x.shortest(-1), 0);
        is("a=5;b=a", Due.with("a=5;b=a", 3).shortest(-1), NONE);
        is("a swap is three", Due.with("a=+ab;b=-ab;a=-ab", 3).shortest(-1), 3);
        is("a swap and one more", Due.with("a=+ab;b=-ab;a=-ab;b=m5b", 3).shortest(-1), NONE);
    }

    private static void noSuchOne() {
        sentence("NONE: there is no i-th.");
        refusedBeyond(() -> Due.with("a=0", 3), "shortest of one", -1, 0, FewerSteps::shortest, NONE);
        refusedBeyond(() -> Due.with("a=7", 1), "shortest of two", -1, 1, FewerSteps::shortest, NONE);
        refusedBeyond(() -> Due.with("a=2", 1), "shortest of three", -1, 2, FewerSteps::shortest, NONE);
        refusedBeyond(() -> Due.with("", 1), "shortest of an empty code", -1, -1, FewerSteps::shortest, NONE);
        refusedBeyond(() -> Due.with("a=5", 1), "shortest where no three do", 0, -1, FewerSteps::shortest, NONE);
    }

    private static void ofAAndBAlone() {
        sentence("for a CODE of a and b alone, WANTED among these");
        for (int wanted = 1; wanted <= 15; wanted++) {
            is("an empty code wanted " + wanted, Due.with("", wanted).shortest(-1), wanted <= 3 ? 0 : STATE);
        }
        sentence("a TARGET a or b; 0, or the other REGISTER, or an ACT on a REGISTER a or b and a, b or 1");
        // 1 less b takes more than one step, as no act has a digit first, nor another digit than 1
        shortest("a=-1b", 3, 0, 202, 301);
        shortest("a=+a2", 3, 202, 202);
        shortest("a=*a4", 3, 200, 200);
        shortest("a=-0a", 2);
    }

    private static void otherRegisters() {
        sentence("STATE: c or d is in THE CODE, or WANTED.");
        String[] codes = {"c=a", "d=a", "a=c", "a=d", "a=+c1", "a=+d1", "a=+1c", "a=-1d", "c=0", "d=0", "a=1;b=2;a=c", "c=c"};
        for (String code : codes) {
            for (int wanted = 1; wanted <= 3; wanted++) {
                FewerSteps x = Due.with(code, wanted);
                refused(x, "shortest(-1) of " + code, () -> x.shortest(-1), STATE);
            }
        }
        for (int wanted = 4; wanted <= 15; wanted++) {
            is("wanted " + wanted, Due.with("a=0", wanted).shortest(-1), STATE);
            is("an empty code wanted " + wanted, Due.with("", wanted).shortest(-1), STATE);
        }
        refusedBeyond(() -> Due.with("a=c", 1), "shortest with c", -1, 2, FewerSteps::shortest, STATE);
        refusedBeyond(() -> Due.with("a=0", 9), "shortest with d wanted", -1, 2, FewerSteps::shortest, STATE);
    }

    /** The answer is that of the code as it is now, however like the last one it may be. */
    private static void behindOtherCodes() {
        sentence("that come to the same in WANTED ones for all ROWS");
        FewerSteps x = new FewerSteps();
        String[] codes = {"a=+ab", "a=-ab", "b=-ab", "b=*ab", "a=mab", "a=*ab", "b=*ab", "a=*ab;b=*aa", "b=*aa"};
        int[] wanted = {3, 3, 3, 3, 3, 3, 1, 2, 2};
        int[] firsts = {201, 301, 1301, 1401, 501, 401, NONE, 401, 1400};
        for (int n = 0; n < codes.length; n++) {
            x.want(wanted[n]);
            Due.code(x, codes[n]);
            is("shortest(0) of " + codes[n] + " behind another code", x.shortest(0), firsts[n]);
            x.image(0);
            Due.code(x, "a=b");
            x.want(1);
            is("and of another one", x.shortest(0), 110);
            x.restore(0);
            is("and of the first again", x.shortest(0), firsts[n]);
            x.want(4);
            is("and with c wanted", x.shortest(0), STATE);
        }
        String[] alike = {"a=+ab;b=0", "a=-ab;b=0", "a=0;b=*ab", "a=0;b=mab"};
        for (String code : alike) {
            FewerSteps fresh = Due.with(code, 3);
            FewerSteps used = Due.with("a=*ab;b=0", 3);
            used.shortest(-1);
            Due.code(used, code);
            for (int i = -1; i < 3; i++) {
                is("shortest(" + i + ") of " + code + " behind a like one", used.shortest(i), fresh.shortest(i));
            }
        }
    }
}

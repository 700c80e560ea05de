/** Promise 30: holds. */
public final class Promise30Test extends Promise {
    public static void main(String[] args) {
        begin(30);
        trueOrNot();
        forAllRows();
        inAllRegisters();
        emptyRight();
        noSuchRule();
        end();
    }

    private static void holds(String rule, int want) {
        FewerSteps x = new FewerSteps();
        Due.rule(x, rule);
        is("holds(0) of " + rule, x.holds(0), want);
    }

    private static void trueOrNot() {
        sentence("Whether a RULE is TRUE: 1, 0.");
        holds("a=+bb>a=*b2", 1);
        holds("a=*b0>a=0", 1);
        holds("a=mbb>a=b", 1);
        holds("a=-bb>a=0", 1);
        holds("a=b;b=a>a=b", 1);
        holds("a=b;b=1>b=1;a=b", 0);
        holds("a=1;b=2>b=2;a=1", 1);
        holds("a=+bc>a=+cb", 1);
        holds("a=-bc>a=-cb", 0);
    }

    private static void forAllRows() {
        sentence("A RULE is TRUE, if both come to the same in all REGISTERS for all ROWS.");
        // unlike in one row of eight alone, the last
        holds("a=mb6>a=b", 0);
        holds("a=mb7>a=b", 1);
        // unlike where a, b, c are all 7
        holds("a=mab;a=mac;a=ma6>a=mab;a=mac", 0);
        holds("a=mab;a=mac;a=ma7>a=mab;a=mac", 1);
        holds("a=1>a=0", 0);
    }

    private static void inAllRegisters() {
        sentence("A RULE is TRUE, if both come to the same in all REGISTERS for all ROWS.");
        for (char r = 'a'; r <= 'd'; r++) {
            holds(r + "=1>", 0);
            holds(r + "=+" + r + "0>", 1);
            for (int set = 1; set <= 15; set++) {
                FewerSteps x = new FewerSteps();
                x.want(set);
                Due.rule(x, r + "=1>");
                is("wanted or not: " + r + " and " + set, x.holds(0), 0);
            }
        }
        holds("a=b;c=d>a=b", 0);
    }

    private static void emptyRight() {
        sentence("RIGHT (which may be empty)");
        holds("a=a>", 1);
        holds("a=+ab>", 0);
        holds("c=-cd;c=+cd>", 1);
        holds("d=*d5;d=*d5>", 1);
        holds("a=+a4;a=+a3;a=+a1>", 1);
        holds("a=+a4;a=+a3;a=+a2>", 0);
    }

    private static void noSuchRule() {
        sentence("UNKNOWN.");
        refusedBeyond(FewerSteps::new, "holds when there is none", 0, -1, FewerSteps::holds, UNKNOWN);
        for (int many = 1; many <= 4; many++) {
            int rules = many;
            refusedBeyond(() -> {
                FewerSteps x = new FewerSteps();
                for (int n = 0; n < rules; n++) {
                    Due.rule(x, "a=a>");
                }
                return x;
            }, "holds when there are " + many, 0, many - 1, FewerSteps::holds, UNKNOWN);
        }
    }
}

/** Promise 4: fault. */
public final class Promise04Test extends Promise {
    private static final String OPERANDS = "abcd01234567";

    public static void main(String[] args) {
        begin(4);
        asCodeAndAsRule();
        refusesOther();
        firstSignThatCanNotStand();
        everySignAtEveryKindOfPlace();
        twelveSteps();
        moreMustCome();
        sidesOfRules();
        askingChangesNothing();
        end();
    }

    private static void fault(int how, String text, int want) {
        FewerSteps x = new FewerSteps();
        Due.say(x, text);
        is("fault(" + how + ") of " + text, x.fault(how), want);
    }

    private static void asCodeAndAsRule() {
        sentence("THE FAULT as a CODE (how = 0), as a RULE (1); NONE.");
        fault(0, "a=b", NONE);
        fault(1, "a=b", 3);
        fault(0, "a=b>", 3);
        fault(1, "a=b>", NONE);
        fault(0, "a=b>a=c", 3);
        fault(1, "a=b>a=c", NONE);
        fault(0, "a=b;a=b;a=b;a=b", NONE);
        fault(1, "a=b;a=b;a=b;a=b", 11);
        fault(0, "a=b;c=*d2;b=-07", NONE);
        fault(0, "d=7", NONE);
        fault(0, "a=m0d", NONE);
    }

    private static void refusesOther() {
        sentence("OUTSIDE.");
        refusedBeyond(FewerSteps::new, "fault of no signs", 0, 1, FewerSteps::fault, OUTSIDE);
        refusedBeyond(() -> {
            FewerSteps x = new FewerSteps();
            Due.say(x, "a=b");
            return x;
        }, "fault of a=b", 0, 1, FewerSteps::fault, OUTSIDE);
    }

    private static void firstSignThatCanNotStand() {
        sentence("THE FAULT: the place (from 0 on) of the first sign that can not stand there");
        fault(0, "e=1", 0);
        fault(0, "3=1", 0);
        fault(0, "m=1", 0);
        fault(0, "=a", 0);
        fault(0, ";", 0);
        fault(0, "a+1", 1);
        fault(0, "ab=1", 1);
        fault(0, "a==", 2);
        fault(0, "a=;", 2);
        fault(0, "a=8", 2);
        fault(0, "a=B", 2);
        fault(0, "a=/ab", 2);
        fault(0, "a=mm1", 3);
        fault(0, "a=bc", 3);
        fault(0, "a=b+", 3);
        fault(0, "a=-a=", 4);
        fault(0, "a=+b;", 4);
        fault(0, "a=b;;", 4);
        fault(0, "a=+bcd", 5);
        fault(0, "e=8;f=9", 0);
        fault(0, "a=1;b=9;c=9", 6);
        fault(0, "a=+bc;".repeat(11) + "a=+b8", 70);
        fault(0, "!".repeat(80), 0);
    }

    private static void places(int how, String prefix, String lawful) {
        for (int sign = 33; sign <= 126; sign++) {
            FewerSteps x = new FewerSteps();
            Due.say(x, prefix + (char) sign);
            boolean stands = lawful.indexOf(sign) >= 0;
            is("whether fault(" + how + ") of " + prefix + (char) sign + " is its last place",
                    x.fault(how) == prefix.length() ? 1 : 0, stands ? 0 : 1);
        }
    }

    private static void everySignAtEveryKindOfPlace() {
        sentence("a REGISTER (its TARGET), a =, and: an OPERAND (a REGISTER or a digit 0 to 7); "
                + "or an ACT (+ - * m: sum, less, product, the lesser one) and two OPERANDS.");
        for (int how = 0; how <= 1; how++) {
            places(how, "", "abcd");
            places(how, "d", "=");
            places(how, "a=", OPERANDS + "+-*m");
            for (char act : "+-*m".toCharArray()) {
                places(how, "a=" + act, OPERANDS);
                places(how, "a=" + act + "0", OPERANDS);
                places(how, "a=" + act + "d", OPERANDS);
                places(how, "a=" + act + "0a", how == 0 ? ";" : ";>");
            }
            places(how, "a=7", how == 0 ? ";" : ";>");
            places(how, "a=b;", "abcd");
        }
        places(1, "a=b>", "abcd");
        places(1, "a=b>a", "=");
        places(1, "a=b>a=", OPERANDS + "+-*m");
        places(1, "a=b>a=1", ";");
        places(1, "a=b>a=1;", "abcd");
    }

    private static void twelveSteps() {
        sentence("(a ; when there are twelve STEPS)");
        String eleven = "a=b;".repeat(10) + "a=b";
        fault(0, eleven, NONE);
        fault(0, eleven + ";", 44);
        fault(0, eleven + ";a=b", NONE);
        fault(0, eleven + ";a=b;", 47);
        fault(0, eleven + ";a=b;a=b", 47);
        String longest = "a=+bc;".repeat(11) + "a=+bc";
        fault(0, longest, NONE);
        fault(0, longest + ";", 71);
        fault(0, longest + ";a=+bc;a=", 71);
        places(0, eleven + ";a=b", "");
    }

    private static void moreMustCome() {
        sentence("the number of signs, if more must come");
        fault(0, "", 0);
        fault(1, "", 0);
        String text = "a=+bc;d=1";
        boolean[] whole = {false, false, false, false, false, true, false, false, false, true};
        for (int many = 0; many <= text.length(); many++) {
            fault(0, text.substring(0, many), whole[many] ? NONE : many);
            fault(1, text.substring(0, many), many);
            fault(1, "a=b>" + text.substring(0, many), whole[many] || many == 0 ? NONE : 4 + many);
        }
        fault(0, "a=+bc;".repeat(11) + "a=+b", 70);
        fault(0, "a=+bc;".repeat(11), 66);
    }

    private static void sidesOfRules() {
        sentence("a CODE (LEFT) of 1 to 3 STEPS and another one (RIGHT) of 0 to 3, told by a text: LEFT, >, RIGHT (which may be empty)");
        fault(1, ">", 0);
        fault(1, ">a=b", 0);
        fault(1, "a=b>", NONE);
        fault(1, "a=b;>a=c", 4);
        fault(1, "a=b>;", 4);
        fault(1, "a=b>>", 4);
        fault(1, "a=b>a=c>", 7);
        fault(1, "a=b>a=c;", 8);
        fault(1, "a=+1>", 4);
        fault(1, "a=b;a=b;a=b", 11);
        fault(1, "a=b;a=b;a=b>", NONE);
        fault(1, "a=b;a=b;a=b;", 11);
        fault(1, "a=b;a=b;a=b>a=b;a=b;a=b", NONE);
        fault(1, "a=b;a=b;a=b>a=b;a=b;a=b;", 23);
        fault(1, "a=b>a=b;a=b;a=b;", 15);
        fault(1, "a=+bc;a=+bc;a=+bc>a=+bc;a=+bc;a=+bc", NONE);
        places(1, "a=b;a=b;a=b", ">");
        places(1, "a=b>a=b;a=b;a=b", "");
    }

    private static void askingChangesNothing() {
        sentence("THE FAULT as a CODE (how = 0), as a RULE (1); NONE.");
        FewerSteps x = Due.with("c=d");
        Due.say(x, "a=b;b=1");
        is("as a rule", x.fault(1), 7);
        is("as a code", x.fault(0), NONE);
        is("as a rule, once more", x.fault(1), 7);
        is("signs stay", x.told(1), 7);
        text("the code stays", Due.read(x), "c=d");
        is("code()", x.code(), 2);
        text("the signs were the same", Due.read(x), "a=b;b=1");
    }
}

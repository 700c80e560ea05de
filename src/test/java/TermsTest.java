import java.io.IOException;
import java.nio.file.DirectoryStream;
import java.nio.file.Files;
import java.nio.file.Path;
import java.util.ArrayList;
import java.util.Arrays;
import java.util.List;
import java.util.regex.Matcher;
import java.util.regex.Pattern;

/** What the document says ahead of all promises: the row of refusals, the constants, 512 calls; and that each word there has a test. */
public final class TermsTest extends Promise {
    private static final Path TESTS = Path.of("src/test/java");
    private static final String FULL_PAD = "!".repeat(80);

    public static void main(String[] args) throws IOException {
        begin(TERMS);
        theFirstRefusalThatFits();
        constants();
        numbersAreLeftOverByEight();
        fiveHundredAndTwelveCalls();
        everyWordIsSaid();
        end();
    }

    private static FewerSteps withFourRules(String signs) {
        FewerSteps x = Due.with("b=a");
        for (int n = 0; n < 4; n++) {
            Due.rule(x, "a=1>");
        }
        Due.say(x, signs);
        return x;
    }

    private static FewerSteps withSigns(String signs) {
        FewerSteps x = new FewerSteps();
        Due.say(x, signs);
        return x;
    }

    /** Each call that can be refused for two reasons at once, and the answers of each reason alone. */
    private static void theFirstRefusalThatFits() {
        sentence("Calls that are refused answer, the first of these that fits: UNKNOWN -1 (there is no such STEP, REGISTER, RULE, VALUE), "
                + "OUTSIDE -2 (another number is not as told), STATE -3 (as told), NO -5 (as told), FULL -4. They change nothing.");
        FewerSteps step = Due.with("a=+bc");
        refused(step, "step(1, 4)", () -> step.step(1, 4), UNKNOWN);
        refused(step, "step(1, 0)", () -> step.step(1, 0), UNKNOWN);
        refused(step, "step(0, 4)", () -> step.step(0, 4), OUTSIDE);
        refused(step, "reads(1, 2)", () -> step.reads(1, 2), UNKNOWN);
        refused(step, "reads(1, 0)", () -> step.reads(1, 0), UNKNOWN);
        refused(step, "reads(0, 2)", () -> step.reads(0, 2), OUTSIDE);
        FewerSteps pad = withSigns(FULL_PAD);
        refused(pad, "say(127) on a full pad", () -> pad.say(127), OUTSIDE);
        refused(pad, "say(97) on a full pad", () -> pad.say(97), FULL);
        FewerSteps image = new FewerSteps();
        refused(image, "restore(2), and none was kept", () -> image.restore(2), OUTSIDE);
        refused(image, "restore(1), and none was kept", () -> image.restore(1), STATE);
        FewerSteps broken = withFourRules("a=1");
        refused(broken, "a fifth rule with a fault", () -> broken.rule(), NO);
        FewerSteps fifth = withFourRules("a=1>");
        refused(fifth, "a fifth rule", () -> fifth.rule(), FULL);
        refused(fifth, "replace(4)", () -> fifth.replace(4), UNKNOWN);
        refused(fifth, "replace(0) where it fits nowhere", () -> fifth.replace(0), STATE);
        FewerSteps twelve = Due.with(TWELVE);
        Due.rule(twelve, "a=1>a=1;a=1");
        refused(twelve, "replace(0) of twelve", () -> twelve.replace(0), FULL);
        refused(twelve, "replace(1) of twelve", () -> twelve.replace(1), UNKNOWN);
        refused(twelve, "quickest(12) of twelve", () -> twelve.quickest(12), STATE);
        refused(twelve, "fewest(12) of twelve", () -> twelve.fewest(12), STATE);
        refused(twelve, "shortest(3) with c and d wanted", () -> twelve.shortest(3), STATE);
    }

    private static void constants() {
        sentence("The constants: `UNKNOWN = -1, OUTSIDE = -2, STATE = -3, FULL = -4, NO = -5, NONE = -6`: "
                + "What refused calls answer; NONE: there is none.");
        is("UNKNOWN", FewerSteps.UNKNOWN, new FewerSteps().step(0, 0));
        is("OUTSIDE", FewerSteps.OUTSIDE, new FewerSteps().want(0));
        is("STATE", FewerSteps.STATE, new FewerSteps().restore(0));
        is("FULL", FewerSteps.FULL, withSigns(FULL_PAD).say('a'));
        is("NO", FewerSteps.NO, new FewerSteps().code());
        is("NONE", FewerSteps.NONE, new FewerSteps().unlike());
        int[] values = {FewerSteps.UNKNOWN, FewerSteps.OUTSIDE, FewerSteps.STATE, FewerSteps.FULL, FewerSteps.NO, FewerSteps.NONE};
        for (int n = 0; n < values.length; n++) {
            is("constant " + n, values[n], -1 - n);
        }
    }

    private static void numbersAreLeftOverByEight() {
        sentence("All numbers in registers are left over by 8 (0 to 7).");
        FewerSteps x = new FewerSteps();
        for (char act : "+-*m".toCharArray()) {
            Due.code(x, "a=" + act + "ab");
            for (int one = 0; one < 8; one++) {
                for (int two = 0; two < 8; two++) {
                    int[] whole = {one + two, one - two, one * two, Math.min(one, two)};
                    int due = Math.floorMod(whole["+-*m".indexOf(act)], 8);
                    is(one + " " + act + " " + two, x.run(one * 512 + two * 64, 1), due * 512 + two * 64);
                }
            }
        }
    }

    private static void fiveHundredAndTwelveCalls() {
        sentence("An object is used for at most 512 calls after it has been made");
        FewerSteps x = new FewerSteps();
        for (int round = 0; round < 73; round++) {
            for (char sign : "a=+bc".toCharArray()) {
                x.say(sign);
            }
            is("code() of round " + round, x.code(), 1);
            is("run() of round " + round, x.run(round * 8, 1), (round / 8 + round % 8) % 8 * 512 + round * 8 % 512);
        }
        is("the 512th call", x.told(0), 1);
    }

    private static void everyWordIsSaid() throws IOException {
        String document = readDocument();
        if (document == null) {
            return;
        }
        String terms = document.substring(document.indexOf("## Terms") + "## Terms".length());
        char[] signs = terms.toCharArray();
        for (String text : saidByAll()) {
            for (int at = terms.indexOf(text); at >= 0; at = terms.indexOf(text, at + 1)) {
                Arrays.fill(signs, at, at + text.length(), '|');
            }
        }
        String left = new String(signs);
        // Headings, marks and names of terms that stand ahead of what a test says.
        left = left.replaceAll("Ahead of the calls (`\\w+`, )*`\\w+` the interface says: ---- \\d [\\w, ]+\\.", "");
        left = left.replaceAll("```(text)?|======== \\d|[A-Z]+:", "").replaceAll("[|,;.: ]+", " ").trim();
        text("what no test says of the terms", left, "");
    }

    /** All sentences of the tests. */
    private static List<String> saidByAll() throws IOException {
        List<String> said = new ArrayList<>();
        try (DirectoryStream<Path> files = Files.newDirectoryStream(TESTS, "*Test.java")) {
            for (Path file : files) {
                Matcher calls = Pattern.compile("sentence\\(((?:\\s*\"[^\"]*\"\\s*\\+?)+)\\)").matcher(Files.readString(file));
                while (calls.find()) {
                    said.add(calls.group(1).replaceAll("\"\\s*\\+\\s*\"", "").trim().replaceAll("^\"|\"$", ""));
                }
            }
        }
        return said;
    }
}

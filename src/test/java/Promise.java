import java.io.IOException;
import java.nio.file.Files;
import java.nio.file.Path;
import java.util.ArrayList;
import java.util.Comparator;
import java.util.List;
import java.util.function.IntSupplier;
import java.util.function.Supplier;

/** What the tests of the promises share: each test says the document's sentence that its answers are held against. */
abstract class Promise {
    /** Begun with in place of a promise's number by the test of what stands ahead of all promises. */
    static final int TERMS = 0;
    static final int UNKNOWN = -1, OUTSIDE = -2, STATE = -3, FULL = -4, NO = -5, NONE = -6;
    static final String TWELVE = "a=1;".repeat(11) + "a=1";
    static final String NINE = "a=1;".repeat(8) + "a=1";
    static final String EIGHT = "a=1;".repeat(7) + "a=1";

    private static final Path DOCUMENT = Path.of("../shared/DOC.md");
    private static final int[] FAR = {Integer.MIN_VALUE, -1000000, -100, 100000, 1 << 20, Integer.MAX_VALUE};
    private static final Due due = new Due();
    private static int promise;
    private static String sentence = "";
    private static int askedBefore;
    private static final List<String> said = new ArrayList<>();
    private static String document;

    static void begin(int number) {
        promise = number;
        sentence = "";
        said.clear();
        document = readDocument();
    }

    /** The sentence that the next answers are held against, word by word as the document has it. */
    static void sentence(String text) {
        endSentence();
        sentence = text;
        said.add(text);
        askedBefore = due.asked();
        if (document != null && !document.contains(text)) {
            throw new IllegalStateException("promise " + promise + " and the terms do not say: " + text);
        }
    }

    private static void endSentence() {
        if (!sentence.isEmpty() && due.asked() == askedBefore) {
            throw new IllegalStateException("nothing was asked for: " + sentence);
        }
    }

    /** What stands ahead of the promises and the promise's own section, in one line; null where the document does not stand. */
    static String readDocument() {
        if (!Files.exists(DOCUMENT)) {
            return null;
        }
        String whole;
        try {
            whole = Files.readString(DOCUMENT).replaceAll("\\s+", " ");
        } catch (IOException broken) {
            throw new IllegalStateException(broken);
        }
        String terms = whole.substring(0, whole.indexOf("## Promise 1:"));
        if (promise == TERMS) {
            return terms;
        }
        int own = whole.indexOf("## Promise " + promise + ":");
        int behind = whole.indexOf(" ## ", own + 1);
        return terms + whole.substring(own, behind);
    }

    /** What the promise's own section says and no test has said. */
    private static String unsaid() {
        String own = document.substring(document.indexOf("## Promise")).replaceAll("^.*?`: ", "");
        said.sort(Comparator.comparing(String::length).reversed());
        for (String text : said) {
            own = own.replace(text, "");
        }
        return own.replaceAll("[ ,;.]+", " ").trim();
    }

    private static String named(String what) {
        return "promise " + promise + ", \"" + sentence + "\": " + what;
    }

    static void is(String what, long got, long want) {
        due.is(named(what), got, want);
    }

    static void text(String what, String got, String want) {
        due.text(named(what), got, want);
    }

    /** A call that is refused with this answer, and changes nothing. */
    static void refused(FewerSteps x, String what, IntSupplier call, int want) {
        String before = Due.state(x);
        is(what, call.getAsInt(), want);
        text(what + ": the state behind it", Due.state(x), before);
    }

    /** A call that is refused for every number below the least and above the most one. */
    static void refusedBeyond(Supplier<FewerSteps> maker, String what, int least, int most, Call call, int want) {
        for (int n = 1; n <= 20; n++) {
            refusedWith(maker.get(), what, least - n, call, want);
            refusedWith(maker.get(), what, most + n, call, want);
        }
        for (int number : FAR) {
            refusedWith(maker.get(), what, number, call, want);
        }
    }

    private static void refusedWith(FewerSteps x, String what, int number, Call call, int want) {
        refused(x, what + " with " + number, () -> call.of(x, number), want);
    }

    /** A call with one number. */
    interface Call {
        int of(FewerSteps x, int number);
    }

    static void end() {
        endSentence();
        if (document != null && promise != TERMS) {
            due.text("promise " + promise + ": what was left untested", unsaid(), "");
        }
        due.end();
    }
}

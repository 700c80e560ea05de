import java.nio.charset.StandardCharsets;
import java.nio.file.Files;
import java.nio.file.Path;
import java.util.regex.Matcher;
import java.util.regex.Pattern;

/** Rules of LANGUAGE.md that the program's text can be asked for. */
public final class LanguageTest {
    private static final Due due = new Due();
    private static final String[] BARRED = {"\\bthrow\\b", "\\btry\\b", "\\bcatch\\b", "\\bsynchronized\\b", "\\bassert\\b", "->", "::",
        "\\bpackage\\b", "\\bvar\\b", "static\\s*\\{", "\\bprotected\\b", "Exact\\b", "\\bObject\\b", "\\bhashCode\\b", "\\btoString\\b",
        "\\bLong\\.", "\\bthrows\\b", "\\bvolatile\\b", "\\bnative\\b"};

    public static void main(String[] args) throws Exception {
        String whole = Files.readString(Path.of("src/main/java/FewerSteps.java"), StandardCharsets.US_ASCII);
        String text = whole.replaceAll("(?s)/\\*.*?\\*/", "").replaceAll("//[^\n]*", "");
        for (String barred : BARRED) {
            due.holds("the program is without " + barred, !Pattern.compile(barred).matcher(text).find());
        }
        Matcher imports = Pattern.compile("import ([^;]*);").matcher(text);
        while (imports.find()) {
            due.text("an import", imports.group(1), "java.util.Arrays");
        }
        Matcher library = Pattern.compile("\\b(Arrays|System|Math|Integer)\\.(\\w+)").matcher(text);
        while (library.find()) {
            due.holds("the library has " + library.group(), "fill arraycopy min max bitCount".contains(library.group(2)));
        }
        methods(text);
        due.end();
    }

    private static void methods(String text) {
        String[] lines = text.split("\n");
        int from = -1;
        boolean constructor = false;
        int methods = 0;
        for (int n = 0; n < lines.length; n++) {
            Matcher head = Pattern.compile("^( {4}| {8})[\\w\\[\\] ]+\\((.*)\\) \\{$").matcher(lines[n]);
            if (head.find() && !lines[n].contains(" = ") && !lines[n].trim().startsWith("if") && !lines[n].trim().startsWith("for")) {
                from = n;
                constructor = head.group().matches(" +(public )?(FewerSteps|[A-Z]\\w*)\\(.*");
                methods++;
                due.holds("seven parameters at most: " + lines[n], head.group(2).split(",").length <= 7);
            }
            boolean makes = from >= 0 && lines[n].contains("new ");
            due.holds("no call makes an object: " + lines[n], !makes || constructor);
            if (from >= 0 && (lines[n].equals("    }") || lines[n].equals("        }"))) {
                due.holds("sixty lines at most: " + lines[from], n - from < 60);
                from = -1;
            }
        }
        due.holds("methods were found", methods > 36);
    }
}

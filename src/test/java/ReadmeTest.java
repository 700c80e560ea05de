import java.lang.reflect.Method;
import java.nio.file.Files;
import java.nio.file.Path;
import java.util.Arrays;
import java.util.TreeSet;
import java.util.regex.Matcher;
import java.util.regex.Pattern;

/** The examples of README.md answer what is written behind them, and its table has every call. */
public final class ReadmeTest {
    private static final Due due = new Due();
    private static final Pattern SAYING = Pattern.compile("^say\\(x, \"(.*)\"\\);$");
    private static final Pattern CALL = Pattern.compile("^x\\.(\\w+)\\(([-\\d, ]*)\\);\\s+// (-?\\d+)\\b.*$");

    public static void main(String[] args) throws Exception {
        String readme = Files.readString(Path.of("README.md"));
        int examples = 0;
        Matcher blocks = Pattern.compile("(?s)```java\n(.*?)```").matcher(readme);
        while (blocks.find()) {
            if (blocks.group(1).startsWith("FewerSteps x = new FewerSteps();\n")) {
                follow(blocks.group(1).split("\n"));
                examples++;
            }
        }
        due.is("examples", examples, 3);
        due.text("calls in the table", callsOfTable(readme).toString(), callsOfFace().toString());
        due.end();
    }

    private static void follow(String[] lines) throws Exception {
        FewerSteps x = new FewerSteps();
        for (int n = 1; n < lines.length; n++) {
            Matcher saying = SAYING.matcher(lines[n]);
            Matcher call = CALL.matcher(lines[n]);
            if (saying.matches()) {
                for (char sign : saying.group(1).toCharArray()) {
                    x.say(sign);
                }
            } else if (call.matches()) {
                due.is(lines[n], answer(x, call.group(1), call.group(2)), Integer.parseInt(call.group(3)));
            } else {
                due.text("a line that can not be followed", lines[n], "");
            }
        }
    }

    private static int answer(FewerSteps x, String name, String numbers) throws Exception {
        Object[] given = numbers.isEmpty() ? new Object[0]
            : Arrays.stream(numbers.split(", ")).map(Integer::valueOf).toArray();
        Class<?>[] types = new Class<?>[given.length];
        Arrays.fill(types, int.class);
        return (Integer) FewerSteps.class.getMethod(name, types).invoke(x, given);
    }

    private static TreeSet<String> callsOfTable(String readme) {
        TreeSet<String> names = new TreeSet<>();
        Matcher rows = Pattern.compile("(?m)^\\| \\d .*$").matcher(readme);
        while (rows.find()) {
            Matcher name = Pattern.compile("`(\\w+)`").matcher(rows.group());
            while (name.find()) {
                names.add(name.group(1));
            }
        }
        return names;
    }

    private static TreeSet<String> callsOfFace() {
        TreeSet<String> names = new TreeSet<>();
        for (Method method : FewerSteps.class.getDeclaredMethods()) {
            if (java.lang.reflect.Modifier.isPublic(method.getModifiers())) {
                names.add(method.getName());
            }
        }
        return names;
    }
}

import java.lang.reflect.Constructor;
import java.lang.reflect.Field;
import java.lang.reflect.Method;
import java.lang.reflect.Modifier;
import java.util.Arrays;
import java.util.HashSet;
import java.util.Set;
import java.util.TreeSet;

/** The public face is the document's, and nothing else of the class can be seen. */
public final class FaceTest {
    private static final Due due = new Due();
    private static final String METHODS = "say/1 wipe/0 fault/1 code/0 want/1 step/2 run/2 keep/0 unlike/0 live/1 bad/1 known/2 "
        + "sort/2 mend/1 clean/0 behind/1 orders/0 set/2 tick/1 time/0 quickest/1 reads/2 held/1 width/0 fewest/1 spill/1 rule/0 "
        + "free/0 holds/1 fits/1 replace/1 go/0 shortest/1 image/1 restore/1 told/1";
    private static final String CONSTANTS = "UNKNOWN OUTSIDE STATE FULL NO NONE";

    public static void main(String[] args) throws Exception {
        Class<?> it = FewerSteps.class;
        due.holds("the class is public and final", Modifier.isPublic(it.getModifiers()) && Modifier.isFinal(it.getModifiers()));
        methods(it);
        constants(it);
        privateNames(it);
        fieldsOf(it);
        Constructor<?>[] constructors = it.getDeclaredConstructors();
        due.is("constructors", constructors.length, 1);
        due.holds("the constructor is public", Modifier.isPublic(constructors[0].getModifiers()));
        due.is("the constructor's parameters", constructors[0].getParameterCount(), 0);
        for (Class<?> inside : it.getDeclaredClasses()) {
            int how = inside.getModifiers();
            due.holds(inside + " is static and not open", Modifier.isStatic(how) && !Modifier.isPublic(how) && !Modifier.isProtected(how));
            due.is(inside + " has classes of its own", inside.getDeclaredClasses().length, 0);
            privateNames(inside);
            fieldsOf(inside);
        }
        for (int promise = 1; promise <= 37; promise++) {
            due.is("promise " + promise + " has a test", testsOf(promise), 1);
        }
        due.holds("twelve classes at most", it.getDeclaredClasses().length < 12);
        due.end();
    }

    private static int testsOf(int promise) {
        try {
            Class.forName(String.format("Promise%02dTest", promise));
            return 1;
        } catch (ClassNotFoundException missing) {
            return 0;
        }
    }

    private static void methods(Class<?> it) {
        Set<String> face = new TreeSet<>(Arrays.asList(METHODS.split(" ")));
        Set<String> open = new TreeSet<>();
        for (Method method : it.getDeclaredMethods()) {
            if (!Modifier.isPrivate(method.getModifiers())) {
                boolean plain = method.getReturnType() == int.class && !Modifier.isStatic(method.getModifiers());
                for (Class<?> parameter : method.getParameterTypes()) {
                    plain = plain && parameter == int.class;
                }
                due.holds(method + " is public, of ints", plain && Modifier.isPublic(method.getModifiers()));
                open.add(method.getName() + "/" + method.getParameterCount());
            }
        }
        due.text("methods", open.toString(), face.toString());
    }

    private static void privateNames(Class<?> it) {
        Set<String> names = new HashSet<>();
        for (String method : METHODS.split(" ")) {
            names.add(method.split("/")[0]);
        }
        for (Method method : it.getDeclaredMethods()) {
            boolean hidden = Modifier.isPrivate(method.getModifiers());
            due.holds(method + " bears no public name", !hidden || !names.contains(method.getName()));
        }
    }

    /** Static ones are constants; of the others there are some twenty at most. */
    private static void fieldsOf(Class<?> it) {
        String lawful = "int long boolean char java.lang.String int[] long[] char[] byte[]";
        int own = 0;
        for (Field field : it.getDeclaredFields()) {
            if (Modifier.isStatic(field.getModifiers())) {
                boolean kind = Arrays.asList(lawful.split(" ")).contains(field.getType().getTypeName());
                due.holds(field + " is a constant", kind && Modifier.isFinal(field.getModifiers()));
            } else {
                due.holds(field + " is private", Modifier.isPrivate(field.getModifiers()));
                own++;
            }
        }
        due.holds(it + " has twenty fields at most: " + own, own <= 20);
    }

    private static void constants(Class<?> it) throws Exception {
        String[] names = CONSTANTS.split(" ");
        Set<String> open = new TreeSet<>();
        for (Field field : it.getDeclaredFields()) {
            if (!Modifier.isPrivate(field.getModifiers())) {
                open.add(field.getName());
            }
        }
        due.text("fields", open.toString(), new TreeSet<>(Arrays.asList(names)).toString());
        for (int n = 0; n < names.length; n++) {
            due.is(names[n], it.getField(names[n]).getInt(null), -1 - n);
        }
    }
}

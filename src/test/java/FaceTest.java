import java.lang.reflect.Constructor;
import java.lang.reflect.Field;
import java.lang.reflect.Method;
import java.lang.reflect.Modifier;
import java.util.ArrayList;
import java.util.Arrays;
import java.util.List;
import java.util.TreeSet;

/** The face of the class: just what the document says, and nothing else that could be seen from outside. */
public final class FaceTest {
    private static final String RANGE = "IndexOutOfBoundsException";
    private static final String ARGUMENT = "IllegalArgumentException";
    private static final String STATE = "IllegalStateException";

    private static final String[] FACE = {
        "int object() " + STATE,
        "int section(int, int, boolean) " + RANGE + " " + ARGUMENT + " " + STATE,
        "int fill(int, int) " + RANGE + " " + ARGUMENT + " " + STATE,
        "int word(int, int, int, boolean) " + RANGE + " " + ARGUMENT + " " + STATE,
        "int jump(int, int, boolean) " + RANGE + " " + ARGUMENT + " " + STATE,
        "int define(int, int, boolean, boolean) " + RANGE + " " + ARGUMENT + " " + STATE,
        "int common(int, int, int, int) " + RANGE + " " + ARGUMENT + " " + STATE,
        "int item(int, int) " + ARGUMENT + " " + STATE,
        "int clear()",
        "int ofObject(int, int) " + RANGE + " " + ARGUMENT,
        "int bounds(int, int) " + ARGUMENT,
        "int link(int, boolean) " + ARGUMENT,
        "int ofSection(int, int) " + RANGE + " " + ARGUMENT,
        "int ofName(int, int) " + ARGUMENT,
        "int fault(int, int) " + RANGE + " " + ARGUMENT,
        "int wordAt(int) " + RANGE,
        "int publish(int) " + ARGUMENT + " " + STATE,
        "int open(int, boolean) " + RANGE,
        "int close(int) " + RANGE + " " + STATE,
        "int call(int, int) " + RANGE + " " + ARGUMENT + " " + STATE,
        "int ofBinding(int, int, int) " + RANGE + " " + ARGUMENT,
        "int ofLibrary(int, int) " + RANGE + " " + ARGUMENT,
        "int many(int) " + ARGUMENT,
        "double usedPart()",
        "int sizeWith(int) " + ARGUMENT + " " + STATE,
        "int faultsWithout(int) " + RANGE + " " + STATE,
        "int goes(int) " + RANGE,
        "int wouldBind(int, int) " + RANGE + " " + ARGUMENT,
        "long digest()",
    };

    private final Check check = new Check("FaceTest");

    public static void main(String[] args) {
        FaceTest test = new FaceTest();
        test.theClass();
        test.theMethods();
        test.nothingElse();
        test.check.end();
    }

    private void theClass() {
        int modifiers = LinkHarbour.class.getModifiers();
        check.due("the class is public", "true", String.valueOf(Modifier.isPublic(modifiers)));
        check.due("the class is final", "true", String.valueOf(Modifier.isFinal(modifiers)));
        check.due("no package", "", LinkHarbour.class.getPackageName());
        Constructor<?>[] constructors = LinkHarbour.class.getDeclaredConstructors();
        check.due("one constructor", 1, constructors.length);
        check.due("it is public", "true", String.valueOf(Modifier.isPublic(constructors[0].getModifiers())));
        check.due("it takes nothing", 0, constructors[0].getParameterCount());
    }

    private static String signature(Method method) {
        List<String> parameters = new ArrayList<>();
        for (Class<?> type : method.getParameterTypes()) {
            parameters.add(type.getSimpleName());
        }
        StringBuilder text = new StringBuilder(method.getReturnType().getSimpleName());
        text.append(' ').append(method.getName()).append('(').append(String.join(", ", parameters)).append(')');
        for (Class<?> type : method.getExceptionTypes()) {
            text.append(' ').append(type.getSimpleName());
        }
        return text.toString();
    }

    private void theMethods() {
        TreeSet<String> found = new TreeSet<>();
        for (Method method : LinkHarbour.class.getDeclaredMethods()) {
            if (!Modifier.isPrivate(method.getModifiers())) {
                found.add(signature(method));
                check.due(method.getName() + " is public", "true",
                        String.valueOf(Modifier.isPublic(method.getModifiers())));
                check.due(method.getName() + " is not static", "false",
                        String.valueOf(Modifier.isStatic(method.getModifiers())));
            }
        }
        for (String line : FACE) {
            check.due(line, "true", String.valueOf(found.remove(line)));
        }
        check.due("methods beside these", "[]", found.toString());
    }

    private void nothingElse() {
        for (Field field : LinkHarbour.class.getDeclaredFields()) {
            check.due(field.getName() + " is private", "true",
                    String.valueOf(Modifier.isPrivate(field.getModifiers())));
        }
        TreeSet<String> names = new TreeSet<>();
        Arrays.stream(FACE).forEach(line -> names.add(line.substring(line.indexOf(' ') + 1, line.indexOf('('))));
        for (Class<?> inside : LinkHarbour.class.getDeclaredClasses()) {
            check.due(inside.getName() + " is static", "true",
                    String.valueOf(Modifier.isStatic(inside.getModifiers())));
            for (Method method : inside.getDeclaredMethods()) {
                check.due(method + " bears a name of its own", "false",
                        String.valueOf(names.contains(method.getName())));
            }
        }
        for (Method method : LinkHarbour.class.getDeclaredMethods()) {
            if (Modifier.isPrivate(method.getModifiers())) {
                check.due(method + " bears a name of its own", "false",
                        String.valueOf(names.contains(method.getName())));
            }
        }
    }
}

import java.lang.reflect.Constructor;
import java.lang.reflect.Field;
import java.lang.reflect.Method;
import java.lang.reflect.Modifier;
import java.util.ArrayList;
import java.util.Arrays;
import java.util.Collections;
import java.util.List;

/** The public face: the constants, the constructor and the methods of the document, and nothing else. */
final class FaceTest {
    private static final String INDEX = " throws IndexOutOfBoundsException";
    private static final String ARGUMENT = " throws IllegalArgumentException";
    private static final String INDEX_ARGUMENT = INDEX + ", IllegalArgumentException";
    private static final String INDEX_STATE = INDEX + ", IllegalStateException";
    private static final String ALL_THREE = INDEX_ARGUMENT + ", IllegalStateException";

    private static final String[] METHODS = {
        "int append(int, int, int, int, int)",
        "int load(int)" + ARGUMENT,
        "int errorOffset()",
        "int size()",
        "int edgeCount()",
        "int edge(int, int)" + INDEX_ARGUMENT,
        "int degree(int)" + INDEX,
        "int reachable(int)" + INDEX,
        "int transition(int, int, boolean)" + INDEX,
        "long hittingTime(int, int, boolean)" + INDEX_STATE,
        "long hittingCost(int, int, boolean)" + INDEX_STATE,
        "long commuteTime(int, int, boolean)" + INDEX_STATE,
        "long resistance(int, int, boolean)" + INDEX_STATE,
        "long trees()",
        "int absorbing()",
        "long absorption(int, int, boolean)" + ALL_THREE,
        "long absorptionTime(int, boolean)" + INDEX_STATE,
        "int blockOf(int)" + INDEX,
        "int blockCount()",
        "boolean isLumpable()",
        "int parted()",
        "int lumped(int, int, boolean)" + INDEX_STATE,
        "long lumpedTime(int, int, boolean)" + INDEX_STATE,
        "float after(int, int, int)" + INDEX_ARGUMENT,
        "int walk(int, int, int, int)" + INDEX_ARGUMENT,
        "int setWeight(int, int)" + INDEX_ARGUMENT,
        "int addEdge(int, int, int)" + ALL_THREE,
        "int removeEdge(int)" + INDEX,
        "int setAbsorbing(int, boolean)" + INDEX,
        "int join(int, int)" + INDEX,
        "int separate(int)" + INDEX,
        "int refine()",
        "int undo()",
        "long checksum()",
    };

    public static void main(String[] args) {
        Checks.sentence("public final class RandomWalks");
        Checks.yes("public and final", () -> RandomWalks.class.getModifiers() == (Modifier.PUBLIC | Modifier.FINAL));
        Checks.yes("no class above", () -> RandomWalks.class.getSuperclass() == Object.class);
        Checks.yes("no interface", () -> RandomWalks.class.getInterfaces().length == 0);
        constants();
        constructors();
        methods();
        Checks.end("FaceTest");
    }

    private static void constants() {
        List<String> names = new ArrayList<>();
        for (Field field : RandomWalks.class.getDeclaredFields()) {
            if (!Modifier.isPrivate(field.getModifiers())) {
                Checks.yes(field.getName() + " is a public constant",
                        () -> field.getModifiers() == (Modifier.PUBLIC | Modifier.STATIC | Modifier.FINAL));
                names.add(field.getName());
            }
        }
        same("constants", names, List.of("SYNTAX_ERROR", "OUT_OF_RANGE", "DUPLICATE", "TOO_DEEP"));
        Checks.same("SYNTAX_ERROR", RandomWalks.SYNTAX_ERROR, -2);
        Checks.same("OUT_OF_RANGE", RandomWalks.OUT_OF_RANGE, -3);
        Checks.same("DUPLICATE", RandomWalks.DUPLICATE, -4);
        Checks.same("TOO_DEEP", RandomWalks.TOO_DEEP, -5);
    }

    private static void constructors() {
        List<String> told = new ArrayList<>();
        for (Constructor<?> constructor : RandomWalks.class.getDeclaredConstructors()) {
            told.add(Modifier.toString(constructor.getModifiers()) + parameters(constructor.getParameterTypes()));
        }
        same("constructors", told, List.of("public()"));
    }

    private static void methods() {
        List<String> told = new ArrayList<>();
        for (Method method : RandomWalks.class.getDeclaredMethods()) {
            if (!Modifier.isPrivate(method.getModifiers()) && !method.isSynthetic()) {
                Checks.yes(method.getName() + " is public and nothing else",
                        () -> method.getModifiers() == Modifier.PUBLIC);
                told.add(method.getReturnType() + " " + method.getName() + parameters(method.getParameterTypes())
                        + exceptions(method.getExceptionTypes()));
            }
        }
        same("methods", told, List.of(METHODS));
    }

    private static String parameters(Class<?>[] types) {
        String told = Arrays.toString(types);
        return "(" + told.substring(1, told.length() - 1) + ")";
    }

    private static String exceptions(Class<?>[] types) {
        StringBuilder told = new StringBuilder();
        for (Class<?> type : types) {
            told.append(told.length() == 0 ? " throws " : ", ").append(type.getSimpleName());
        }
        return told.toString();
    }

    private static void same(String what, List<String> got, List<String> due) {
        List<String> sortedGot = new ArrayList<>(got);
        List<String> sortedDue = new ArrayList<>(due);
        Collections.sort(sortedGot);
        Collections.sort(sortedDue);
        if (!sortedGot.equals(sortedDue)) {
            Checks.report(what + " are " + sortedGot + ", due are " + sortedDue);
        }
    }
}

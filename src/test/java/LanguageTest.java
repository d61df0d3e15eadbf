import java.io.IOException;
import java.lang.reflect.Field;
import java.lang.reflect.Method;
import java.lang.reflect.Modifier;
import java.nio.file.Files;
import java.nio.file.Path;
import java.util.ArrayList;
import java.util.List;
import java.util.Set;
import java.util.regex.Matcher;
import java.util.regex.Pattern;

/** What can be counted or found of the rules in ../shared/LANGUAGE.md. */
final class LanguageTest {
    private static final Path SOURCE = Path.of("src/main/java/RandomWalks.java");
    private static final Set<String> TYPES = Set.of("int", "long", "boolean", "byte", "float",
            "int[]", "long[]", "byte[]", "float[]", "String");
    private static final Set<String> LIBRARY = Set.of("Arrays.fill", "Arrays.copyOf", "System.arraycopy",
            "Math.min", "Math.max", "Math.abs");
    private static final Set<String> TEXT_CALLS = Set.of("length", "charAt");
    private static final Set<String> EXCEPTIONS = Set.of("IndexOutOfBoundsException", "IllegalArgumentException",
            "IllegalStateException");
    private static final String[] NOT_ALLOWED = {"->", "::"};
    private static final Pattern WORDS_NOT_ALLOWED = Pattern.compile(
            "\\b(try|catch|finally|assert|synchronized|instanceof|var|native|volatile|transient|interface|enum"
            + "|Object|Class|Thread|Random|StringBuilder|double)\\b");
    private static final Pattern IMPORT = Pattern.compile("(?m)^import (.*);$");
    private static final Pattern LIBRARY_CALL = Pattern.compile("\\b(Arrays|System|Math|String|Integer|Long)\\.(\\w+)");
    private static final Pattern TEXT_CALL = Pattern.compile("\\bword\\.(\\w+)");
    private static final Pattern THROW = Pattern.compile("\\bthrow\\b(?: new (\\w+)\\(\"[ -~]*\"\\);)?");
    private static final Pattern SPECIAL = Pattern.compile("/\\*.*?\\*/|//[^\\n]*|\"[^\"]*\"", Pattern.DOTALL);

    public static void main(String[] args) throws IOException {
        String source = Files.readString(SOURCE);
        members();
        words(source);
        lengths(source.split("\n"));
        Checks.end("LanguageTest");
    }

    private static List<Class<?>> classes() {
        List<Class<?>> all = new ArrayList<>(List.of(RandomWalks.class));
        all.addAll(List.of(RandomWalks.class.getDeclaredClasses()));
        return all;
    }

    private static void members() {
        Checks.yes("rule 11: some twelve classes", () -> classes().size() <= 12);
        Set<String> face = faceNames();
        for (Class<?> type : classes()) {
            String name = type.getSimpleName();
            Checks.yes("rule 2: " + name + " is static", () -> type == RandomWalks.class
                    || type.getModifiers() == (Modifier.PRIVATE | Modifier.STATIC | Modifier.FINAL));
            Checks.yes("rule 2: no classes in " + name, () -> type == RandomWalks.class
                    || type.getDeclaredClasses().length == 0);
            for (Method method : type.getDeclaredMethods()) {
                method(name, method, face);
            }
            fields(type);
        }
    }

    private static Set<String> faceNames() {
        List<String> names = new ArrayList<>();
        for (Method method : RandomWalks.class.getDeclaredMethods()) {
            if (Modifier.isPublic(method.getModifiers())) {
                names.add(method.getName());
            }
        }
        return Set.copyOf(names);
    }

    private static void method(String type, Method method, Set<String> face) {
        String name = type + "." + method.getName();
        Checks.yes("rule 1: " + name + " bears no name of the face",
                () -> Modifier.isPublic(method.getModifiers()) || !face.contains(method.getName()));
        Checks.yes("rule 11: " + name + " takes at most seven parameters", () -> method.getParameterCount() <= 7);
    }

    private static void fields(Class<?> type) {
        List<String> own = new ArrayList<>();
        for (Class<?> each : classes()) {
            own.add(each.getSimpleName());
            own.add(each.getSimpleName() + "[]");
        }
        int count = 0;
        for (Field field : type.getDeclaredFields()) {
            String told = field.getType().getSimpleName();
            String name = type.getSimpleName() + "." + field.getName();
            Checks.yes("rule 3: the type of " + name, () -> TYPES.contains(told) || own.contains(told));
            if (Modifier.isStatic(field.getModifiers())) {
                Checks.yes("rule 5: " + name + " is final", () -> Modifier.isFinal(field.getModifiers()));
            } else {
                count++;
            }
        }
        int fields = count;
        Checks.yes("rule 11: some twenty fields in " + type.getSimpleName(), () -> fields <= 20);
    }

    private static void words(String source) {
        Checks.yes("signs 1 to 127", () -> source.chars().allMatch(sign -> sign > 0 && sign < 128));
        String code = SPECIAL.matcher(source).replaceAll("\"\"");
        for (String signs : NOT_ALLOWED) {
            Checks.yes("no " + signs, () -> !code.contains(signs));
        }
        none(WORDS_NOT_ALLOWED, code);
        allIn(IMPORT, code, Set.of("java.util.Arrays"));
        allIn(TEXT_CALL, code, TEXT_CALLS);
        Matcher call = LIBRARY_CALL.matcher(code);
        while (call.find()) {
            String name = call.group(1) + "." + call.group(2);
            Checks.yes("rule 4: " + name + " is listed", () -> LIBRARY.contains(name));
        }
        // The text in the brackets counts, so this looks at the source itself.
        allIn(THROW, source.replaceAll("//.*", ""), EXCEPTIONS);
        Checks.yes("rule 10: no texts joined by +", () -> !code.contains("\"\" +") && !code.contains("+ \"\""));
    }

    private static void none(Pattern pattern, String code) {
        Matcher matcher = pattern.matcher(code);
        while (matcher.find()) {
            Checks.report("the source has: " + matcher.group());
        }
    }

    private static void allIn(Pattern pattern, String code, Set<String> allowed) {
        Matcher matcher = pattern.matcher(code);
        int found = 0;
        while (matcher.find()) {
            found++;
            if (matcher.group(1) == null || !allowed.contains(matcher.group(1))) {
                Checks.report("the source has: " + matcher.group());
            }
        }
        int count = found;
        Checks.yes(pattern + " is found", () -> count > 0);
    }

    /** From each closing brace of a member back to the latest line that begins as far to the left. */
    private static void lengths(String[] lines) {
        for (int k = 0; k < lines.length; k++) {
            String line = lines[k];
            if (line.equals("    }") || line.equals("        }")) {
                int first = k - 1;
                while (first > 0 && indent(lines[first]) != indent(line)) {
                    first--;
                }
                String head = lines[first].strip();
                int length = k - first + 1;
                Checks.yes("rule 11: short enough: " + head, () -> length <= 60 || head.contains(" class "));
            }
        }
    }

    private static int indent(String line) {
        return line.length() - line.stripLeading().length();
    }
}

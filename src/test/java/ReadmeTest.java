import java.io.IOException;
import java.lang.reflect.InvocationTargetException;
import java.lang.reflect.Method;
import java.nio.file.Files;
import java.nio.file.Path;
import java.util.ArrayList;
import java.util.List;
import java.util.regex.Matcher;
import java.util.regex.Pattern;

/** README.md: makes the calls that stand there, and compares their answers with the comments behind them. */
final class ReadmeTest {
    private static final Path README = Path.of("README.md");
    private static final Path THIS_TEST = Path.of("src/test/java/ReadmeTest.java");
    private static final String NEW_OBJECT = "RandomWalks walks = new RandomWalks();";
    private static final Pattern CALL = Pattern.compile("walks\\.(\\w+)\\((.*)\\); +// (\\S+?)[:,]?( .*)?");
    private static final Pattern LOAD = Pattern.compile("load\\(walks, \"(.*)\"\\); +// (\\S+?)[:,]?( .*)?");

    private static RandomWalks walks = new RandomWalks();

    public static void main(String[] args) throws IOException {
        List<String> code = codeLines();
        Checks.yes("README.md has calls", () -> code.size() > 40);
        String own = Files.readString(THIS_TEST);
        for (String line : code) {
            if (!goesWell(line) && !own.contains(line.strip())) {
                Checks.report("neither a call nor a line of load: " + line);
            }
        }
        Checks.end("ReadmeTest");
    }

    // As it stands in README.md, so that it is known to work.
    static int load(RandomWalks walks, String text) {
        for (int at = 0; at < text.length(); at += 20) {
            int[] words = new int[5];
            for (int k = 0; k < 20; k++) {
                int letter = at + k < text.length() ? text.charAt(at + k) : ' ';
                words[k / 4] = words[k / 4] << 8 | letter;
            }
            walks.append(words[0], words[1], words[2], words[3], words[4]);
        }
        return walks.load(text.length());
    }

    /** The lines of the parts that are marked as Java. */
    private static List<String> codeLines() throws IOException {
        List<String> lines = new ArrayList<>();
        boolean isCode = false;
        for (String line : Files.readAllLines(README)) {
            if (line.startsWith("```")) {
                isCode = line.equals("```java");
            } else if (isCode) {
                lines.add(line);
            }
        }
        return lines;
    }

    /** Makes the call that the line tells; false if it tells none. */
    private static boolean goesWell(String line) {
        if (line.equals(NEW_OBJECT)) {
            walks = new RandomWalks();
            return true;
        }
        Matcher load = LOAD.matcher(line);
        if (load.matches()) {
            compare(line, String.valueOf(load(walks, load.group(1))), load.group(2));
            return true;
        }
        Matcher call = CALL.matcher(line);
        if (call.matches()) {
            String rest = call.group(4);
            boolean isRefused = call.group(3).equals("throws") && rest != null;
            String due = isRefused ? "throws " + rest.strip().split(":")[0] : call.group(3);
            compare(line, answer(call.group(1), call.group(2)), due);
            return true;
        }
        return false;
    }

    private static void compare(String line, String got, String due) {
        if (!got.equals(due)) {
            Checks.report(line + " answered " + got + ", due is " + due);
        }
    }

    private static String answer(String name, String told) {
        String[] parts = told.isEmpty() ? new String[0] : told.split(", ");
        for (Method method : RandomWalks.class.getMethods()) {
            if (method.getName().equals(name) && method.getParameterCount() == parts.length) {
                return answer(method, parts);
            }
        }
        return "no such method";
    }

    private static String answer(Method method, String[] parts) {
        Object[] arguments = new Object[parts.length];
        for (int k = 0; k < parts.length; k++) {
            boolean isTruth = method.getParameterTypes()[k] == boolean.class;
            arguments[k] = isTruth ? (Object) Boolean.valueOf(parts[k]) : (Object) Integer.valueOf(parts[k]);
        }
        try {
            return String.valueOf(method.invoke(walks, arguments));
        } catch (InvocationTargetException e) {
            return "throws " + e.getCause().getClass().getSimpleName();
        } catch (IllegalAccessException e) {
            return "not public";
        }
    }
}

import java.io.IOException;
import java.nio.charset.StandardCharsets;
import java.nio.file.Files;
import java.nio.file.Path;
import java.util.function.BooleanSupplier;
import java.util.function.LongSupplier;

/** What the tests share: counting wrong answers, and loading a text. */
final class Checks {
    /** A number of a fraction, told which one. */
    interface Part {
        long get(boolean isBelow);
    }

    /** A call that is told one number. */
    interface Call {
        long of(int number);
    }

    private static final Path DOCUMENT = Path.of("../shared/DOC.md");

    private static int wrong = 0;
    private static String sentence = "";
    private static String document = "";

    private Checks() {
    }

    /** The sentence of the document that the checks from here on are for. */
    static void sentence(String words) {
        sentence = words;
        if (document.isEmpty()) {
            document = readDocument();
        }
        if (!document.contains(words)) {
            report("these words do not stand in " + DOCUMENT);
        }
    }

    private static String readDocument() {
        try {
            return inOneLine(Files.readString(DOCUMENT));
        } catch (IOException e) {
            // Without a document no words stand there, which is reported then.
            return "-";
        }
    }

    /** A sentence may go over the end of a line. */
    private static String inOneLine(String text) {
        return text.replaceAll("\\s+", " ");
    }

    static void same(String call, long got, long due) {
        if (got != due) {
            report(call + " answered " + got + ", due is " + due);
        }
    }

    static void same(String call, float got, float due) {
        if (got != due) {
            report(call + " answered " + got + ", due is " + due);
        }
    }

    static void yes(String what, BooleanSupplier condition) {
        if (!condition.getAsBoolean()) {
            report(what + " does not hold");
        }
    }

    static void fraction(String call, Part part, long above, long below) {
        same(call + " above", part.get(false), above);
        same(call + " below", part.get(true), below);
    }

    static void throwsJust(Class<? extends RuntimeException> due, String call, LongSupplier run) {
        try {
            long got = run.getAsLong();
            report(call + " answered " + got + ", due is " + due.getSimpleName());
        } catch (RuntimeException e) {
            if (e.getClass() != due) {
                report(call + " threw " + e.getClass().getSimpleName() + ", due is " + due.getSimpleName());
            }
        }
    }

    static void noIndex(String call, LongSupplier run) {
        throwsJust(IndexOutOfBoundsException.class, call, run);
    }

    static void noArgument(String call, LongSupplier run) {
        throwsJust(IllegalArgumentException.class, call, run);
    }

    static void noState(String call, LongSupplier run) {
        throwsJust(IllegalStateException.class, call, run);
    }

    /** The numbers from 0 to below the count exist, and no others. */
    static void noIndexOutside(String call, int count, Call run) {
        for (int k : new int[] {-1, count, 31, 32, Integer.MIN_VALUE, Integer.MAX_VALUE}) {
            noIndex(call + " with " + k, () -> run.of(k));
        }
    }

    static void noArgumentOutside(String call, int least, int most, Call run) {
        for (int k : new int[] {least - 1, most + 1, Integer.MIN_VALUE, Integer.MAX_VALUE}) {
            // The seed has no number above its range.
            if (k < least || k > most) {
                noArgument(call + " with " + k, () -> run.of(k));
            }
        }
    }

    static void report(String line) {
        wrong++;
        if (wrong <= 50) {
            System.out.println(sentence.isEmpty() ? line : line + " [" + sentence + "]");
        }
    }

    static byte[] bytes(String text) {
        return text.getBytes(StandardCharsets.ISO_8859_1);
    }

    /** Appends the text, filled up with zeros; false if the buffer did not take all of it. */
    static boolean append(RandomWalks x, String text) {
        byte[] bytes = bytes(text);
        for (int at = 0; at < bytes.length; at += 20) {
            int[] words = new int[5];
            for (int k = 0; k < 20; k++) {
                int b = at + k < bytes.length ? bytes[at + k] & 255 : 0;
                words[k / 4] = words[k / 4] << 8 | b;
            }
            if (x.append(words[0], words[1], words[2], words[3], words[4]) < 0) {
                return false;
            }
        }
        return true;
    }

    static int load(RandomWalks x, String text) {
        if (!append(x, text)) {
            report("no room for: " + text);
        }
        return x.load(text.length());
    }

    static RandomWalks loaded(String text) {
        RandomWalks x = new RandomWalks();
        if (load(x, text) < 0) {
            report("error at " + x.errorOffset() + " in: " + text);
        }
        return x;
    }

    static void error(String text, int code, int offset) {
        RandomWalks x = new RandomWalks();
        same("load of '" + text + "'", load(x, text), code);
        same("errorOffset of '" + text + "'", x.errorOffset(), offset);
    }

    /** The cost of the steps along an edge of the weight 5 between 0 and 1. */
    static void cost(String sum, int there, int back) {
        RandomWalks x = loaded("walk 2;edge 0 1 5;cost " + sum + ";");
        same("cost " + sum, x.edge(0, 3), there);
        same("cost back " + sum, x.edge(0, 4), back);
    }

    /** A text of six vertices and all 15 edges, of one weight. */
    static String full(int weight) {
        StringBuilder text = new StringBuilder("walk 6;");
        for (int a = 0; a < 6; a++) {
            for (int b = a + 1; b < 6; b++) {
                text.append("edge ").append(a).append(' ').append(b).append(' ').append(weight).append(';');
            }
        }
        return text.toString();
    }

    static void end(String test) {
        System.out.println(test + ": " + (wrong == 0 ? "all answers are as due" : wrong + " are not as due"));
        if (wrong != 0) {
            System.exit(1);
        }
    }
}

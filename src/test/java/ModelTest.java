import java.util.function.LongSupplier;

/** All promises: runs of calls by a fixed row of drawn numbers, each answer compared with that of Model. */
final class ModelTest {
    private static final int RUNS = 400;
    private static final int CALLS = 500;
    private static final String[] STRAYS = {"0", "9", "10000", "(", ")", ";", "cost", "edge", " ", "to", "x", "*", "$"};

    private static long state = 20261119;

    public static void main(String[] args) {
        for (int run = 0; run < RUNS; run++) {
            new ModelTest(run).go();
        }
        goThroughTexts("walk 2;edge 0 1 5;cost ", 6, "7", "to", "+", "/", "(", ")", ";");
        goThroughTexts("walk 2;edge 0 1 5;cost ((((", 4, "7", "-", "*", "(", ")", ";");
        goThroughTexts("", 5, "walk", "2", "1", ";", "edge", "absorb", "join");
        goThroughTexts("walk 2;", 6, "0", "1", ";", "edge", "absorb", "join");
        Checks.end("ModelTest");
    }

    private final int run;
    private final RandomWalks x = new RandomWalks();
    private final Model model = new Model();

    private ModelTest(int run) {
        this.run = run;
    }

    /** A number from 0 to below the bound. */
    private static int draw(int bound) {
        state = state * 6364136223846793005L + 1442695040888963407L;
        return (int) ((state >>> 33) % bound);
    }

    /** Mostly a number from 0 to below the bound; at times one of its neighbours, or far off. */
    private static int near(int bound) {
        int kind = draw(60);
        if (kind == 0) {
            return -1;
        }
        if (kind == 1) {
            return bound;
        }
        if (kind == 2) {
            return draw(2) == 0 ? Integer.MIN_VALUE : Integer.MAX_VALUE;
        }
        return draw(Math.max(1, bound));
    }

    private void go() {
        load();
        for (int k = 1; k < CALLS - 100; k++) {
            if (draw(25) == 0) {
                load();
                k += 20;
            } else if (draw(3) == 0) {
                change();
            } else {
                ask();
            }
        }
    }

    /** All texts of up to that many tokens behind a start. */
    private static void goThroughTexts(String start, int most, String... tokens) {
        int texts = 1;
        for (int length = 0; length <= most; length++) {
            for (int number = 0; number < texts; number++) {
                StringBuilder text = new StringBuilder(start);
                int rest = number;
                for (int k = 0; k < length; k++) {
                    text.append(' ').append(tokens[rest % tokens.length]);
                    rest /= tokens.length;
                }
                new ModelTest(-1).compareText(text.toString());
            }
            texts *= tokens.length;
        }
    }

    private void compareText(String text) {
        compare("append of " + text, () -> Checks.append(x, text) ? 1 : 0, () -> model.append(text) >= 0 ? 1 : 0);
        compare("load of " + text, () -> x.load(text.length()), () -> model.load(text.length()));
        compare("errorOffset of " + text, x::errorOffset, model::errorOffset);
        compare("checksum of " + text, x::checksum, model::checksum);
        compare("cost of " + text, () -> x.edge(0, 3), () -> model.edge(0, 3));
    }

    private void compare(String call, LongSupplier got, LongSupplier due) {
        String answer = told(got);
        String wanted = told(due);
        if (!answer.equals(wanted)) {
            Checks.report("run " + run + ": " + call + " answered " + answer + ", due is " + wanted);
        }
    }

    private static String told(LongSupplier call) {
        try {
            return String.valueOf(call.getAsLong());
        } catch (RuntimeException e) {
            return "throws." + e.getClass().getSimpleName();
        }
    }

    private void load() {
        String text = text();
        byte[] bytes = Checks.bytes(text);
        int length = bytes.length;
        for (int at = 0; at < length; at += 20) {
            StringBuilder part = new StringBuilder();
            int[] words = new int[5];
            for (int k = 0; k < 20; k++) {
                int b = at + k < length ? bytes[at + k] & 255 : draw(256);
                words[k / 4] = words[k / 4] << 8 | b;
                part.append((char) b);
            }
            compare("append", () -> x.append(words[0], words[1], words[2], words[3], words[4]),
                    () -> model.append(part.toString()));
        }
        int told = draw(30) == 0 ? near(length + 25) : length;
        compare("load of " + text, () -> x.load(told), () -> model.load(told));
        compare("errorOffset of " + text, x::errorOffset, model::errorOffset);
        compare("checksum", x::checksum, model::checksum);
    }

    private static String text() {
        StringBuilder text = new StringBuilder();
        int n = 2 + draw(5);
        put(text, "walk", String.valueOf(n), ";");
        int most = draw(16);
        for (int a = 0; a < n; a++) {
            for (int b = a + 1; b < n; b++) {
                if (draw(16) < most) {
                    boolean isTurned = draw(2) == 0;
                    int weight = draw(3) == 0 ? 1 + draw(9) : 1 + most % 3;
                    put(text, "edge", "" + (isTurned ? b : a), "" + (isTurned ? a : b), "" + weight, ";");
                }
            }
        }
        for (int v = 0; v < n; v++) {
            if (draw(4) == 0) {
                put(text, "absorb", "" + v, ";");
            }
            if (draw(4) == 0) {
                put(text, "join", "" + draw(n), "" + v, ";");
            }
        }
        if (draw(3) > 0) {
            put(text, "cost");
            putSum(text, 0);
            put(text, ";");
        }
        if (draw(3) == 0) {
            spoil(text);
        }
        text.setLength(Math.min(600, text.length()));
        return text.toString();
    }

    private static void put(StringBuilder text, String... tokens) {
        for (String token : tokens) {
            boolean isRun = text.length() > 0 && kind(text.charAt(text.length() - 1)) == kind(token.charAt(0));
            text.append(isRun || draw(20) == 0 ? " " : "").append(draw(60) == 0 && kind(token.charAt(0)) == 1 ? "00" : "")
                    .append(token);
        }
    }

    private static int kind(char c) {
        return c >= '0' && c <= '9' ? 1 : c >= 'a' && c <= 'z' ? 2 : 3 + c;
    }

    private static void putSum(StringBuilder text, int depth) {
        putTerm(text, depth);
        for (int k = draw(3); k > 0; k--) {
            put(text, draw(2) == 0 ? "+" : "-");
            putTerm(text, depth);
        }
    }

    private static void putTerm(StringBuilder text, int depth) {
        putFactor(text, depth);
        while (draw(3) == 0) {
            put(text, draw(2) == 0 ? "*" : "/");
            putFactor(text, depth);
        }
    }

    private static void putFactor(StringBuilder text, int depth) {
        int kind = draw(7);
        if (kind == 0 && depth < (draw(10) == 0 ? 6 : 4)) {
            put(text, "(");
            putSum(text, depth + 1);
            put(text, ")");
        } else if (kind <= 3) {
            put(text, new String[] {"weight", "from", "to"}[draw(3)]);
        } else {
            put(text, "" + draw(kind == 6 ? 10000 : 12));
        }
    }

    private static void spoil(StringBuilder text) {
        for (int k = draw(3); k >= 0; k--) {
            int at = draw(text.length() + 1);
            int end = Math.min(text.length(), at + draw(3));
            text.replace(at, end, draw(2) == 0 ? "" : STRAYS[draw(STRAYS.length)]);
        }
    }

    private int vertex() {
        return near(x.size());
    }

    private void change() {
        int a = vertex();
        int b = vertex();
        int e = near(x.edgeCount());
        int weight = near(10);
        boolean isIt = draw(2) == 0;
        switch (draw(9)) {
            case 0 -> compare("setWeight", () -> x.setWeight(e, weight), () -> model.setWeight(e, weight));
            case 1, 2 -> compare("addEdge", () -> x.addEdge(a, b, weight), () -> model.addEdge(a, b, weight));
            case 3 -> compare("removeEdge", () -> x.removeEdge(e), () -> model.removeEdge(e));
            case 4 -> compare("setAbsorbing", () -> x.setAbsorbing(a, isIt), () -> model.setAbsorbing(a, isIt));
            case 5 -> compare("join", () -> x.join(a, b), () -> model.join(a, b));
            case 6 -> compare("separate", () -> x.separate(a), () -> model.separate(a));
            case 7 -> compare("refine", x::refine, model::refine);
            default -> compare("undo", x::undo, model::undo);
        }
        compare("checksum", x::checksum, model::checksum);
    }

    private void ask() {
        int a = vertex();
        int b = vertex();
        boolean isIt = draw(2) == 0;
        switch (draw(8)) {
            case 0 -> askCounts();
            case 1 -> askSteps(a, b);
            case 2 -> askBlocks(isIt);
            case 3 -> askAbsorption(a, b, isIt);
            default -> askMeans(a, b, isIt);
        }
    }

    private void askCounts() {
        int e = near(x.edgeCount());
        int what = near(5);
        int a = vertex();
        compare("size", x::size, model::size);
        compare("edgeCount", x::edgeCount, model::edgeCount);
        compare("trees", x::trees, model::trees);
        compare("absorbing", x::absorbing, model::absorbing);
        compare("blockCount", x::blockCount, model::blockCount);
        compare("edge", () -> x.edge(e, what), () -> model.edge(e, what));
        compare("degree", () -> x.degree(a), () -> model.degree(a));
        compare("reachable", () -> x.reachable(a), () -> model.reachable(a));
        compare("blockOf", () -> x.blockOf(a), () -> model.blockOf(a));
    }

    private void askSteps(int a, int b) {
        int steps = near(draw(5) == 0 ? 101 : 12);
        int walked = near(draw(8) == 0 ? 1001 : 30);
        int seed = near(Integer.MAX_VALUE);
        int what = near(4);
        compare("after", () -> Float.floatToRawIntBits(x.after(a, b, steps)),
                () -> Float.floatToRawIntBits(model.after(a, b, steps)));
        compare("walk", () -> x.walk(a, walked, seed, what), () -> model.walk(a, walked, seed, what));
    }

    private void askBlocks(boolean isIt) {
        int a = near(x.blockCount());
        int b = near(x.blockCount());
        compare("isLumpable", () -> x.isLumpable() ? 1 : 0, model::isLumpable);
        compare("parted", x::parted, model::parted);
        compare("lumped", () -> x.lumped(a, b, isIt), () -> model.lumped(a, b, isIt));
        compare("lumpedTime", () -> x.lumpedTime(a, b, isIt), () -> model.lumpedTime(a, b, isIt));
    }

    private void askAbsorption(int a, int b, boolean isIt) {
        compare("absorption", () -> x.absorption(a, b, isIt), () -> model.absorption(a, b, isIt));
        compare("absorptionTime", () -> x.absorptionTime(a, isIt), () -> model.absorptionTime(a, isIt));
    }

    private void askMeans(int a, int b, boolean isIt) {
        compare("transition", () -> x.transition(a, b, isIt), () -> model.transition(a, b, isIt));
        compare("hittingTime", () -> x.hittingTime(a, b, isIt), () -> model.hittingTime(a, b, isIt));
        compare("hittingCost", () -> x.hittingCost(a, b, isIt), () -> model.hittingCost(a, b, isIt));
        compare("commuteTime", () -> x.commuteTime(a, b, isIt), () -> model.commuteTime(a, b, isIt));
        compare("resistance", () -> x.resistance(a, b, isIt), () -> model.resistance(a, b, isIt));
    }
}

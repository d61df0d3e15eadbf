/**
 * Distributions after some steps and walks by draws (promises 25 and 26), a sentence of the document at a time:
 * each that names a boundary is tested on both of its sides.
 */
final class StepsBoundsTest {
    private static final int MOST_SEED = 2147483647;
    private static final String PATH = "walk 4;edge 0 1 1;edge 1 2 2;cost weight*10+to;";
    /** From 3: 1 draw to 0, 2 to 1, 3 to 4, told in another order; 2 and 5 have no way to it. */
    private static final String STAR = "walk 6;edge 4 3 3;edge 3 0 1;edge 1 3 2;";

    public static void main(String[] args) {
        atFirstOnlyTheBeginning();
        stepsAfter();
        probabilitiesInFloat();
        sumsInAscendingOrder();
        absorbingVerticesDoNotEndIt();
        afterRefuses();
        stepsWalked();
        seedsOfWalks();
        partsOfWalks();
        walkRefuses();
        drawingNumbersAreModulo();
        drawnNumbersAreModuloTheDegree();
        firstSumThatIsGreater();
        stepWithoutDraw();
        costsOfWalks();
        absorbedForTheFirstTime();
        nothingChanges();
        Checks.end("StepsBoundsTest");
    }

    private static void atFirstOnlyTheBeginning() {
        Checks.sentence("At first it is 1.0f for the vertex where it begins, and 0.0f for all others.");
        RandomWalks x = Checks.loaded("walk 6;edge 0 1 1;edge 1 2 1;absorb 2;");
        for (int a = 0; a < 6; a++) {
            for (int b = 0; b < 6; b++) {
                Checks.same("after(" + a + ", " + b + ", 0)", x.after(a, b, 0), a == b ? 1.0f : 0.0f);
            }
        }
    }

    private static void stepsAfter() {
        Checks.sentence("`steps`: 0 to 100");
        RandomWalks x = Checks.loaded("walk 3;edge 0 1 5;");
        for (int steps = 0; steps <= 100; steps++) {
            Checks.same("after(0, 0, " + steps + ")", x.after(0, 0, steps), 1.0f - steps % 2);
            Checks.same("after(1, 0, " + steps + ")", x.after(1, 0, steps), steps % 2);
            Checks.same("after(2, 2, " + steps + ")", x.after(2, 2, steps), 1.0f);
            Checks.same("after(2, 0, " + steps + ")", x.after(2, 0, steps), 0.0f);
        }
        Checks.noArgumentOutside("after", 0, 100, steps -> (long) x.after(0, 0, steps));
    }

    private static void probabilitiesInFloat() {
        Checks.sentence("The probability is the numerator divided by the denominator of its fraction (each one converted to float).");
        RandomWalks x = Checks.loaded("walk 4;edge 0 1 3;edge 0 2 6;edge 0 3 1;");
        Checks.same("3 of 10", x.after(0, 1, 1), 3.0f / 10.0f);
        Checks.same("6 of 10", x.after(0, 2, 1), 3.0f / 5.0f);
        Checks.same("1 of 10", x.after(0, 3, 1), 1.0f / 10.0f);
        Checks.same("1 of 1", x.after(3, 0, 1), 1.0f);
        Checks.same("no step", x.after(1, 2, 1), 0.0f);
        RandomWalks sevenths = Checks.loaded("walk 3;edge 0 1 2;edge 0 2 5;");
        Checks.same("2 of 7", sevenths.after(0, 1, 1), 2.0f / 7.0f);
        Checks.same("5 of 7", sevenths.after(0, 2, 1), 5.0f / 7.0f);
    }

    /** All three vertices have ways to 0 after two steps, and the order of their products tells in the rounding. */
    private static void sumsInAscendingOrder() {
        Checks.sentence("the new number of a vertex y starts at 0.0f; then for each vertex x, in ascending order, from which "
                + "a step to y has a probability other than 0, the old number of x multiplied by this probability is added.");
        RandomWalks x = Checks.loaded("walk 4;edge 3 2 7;edge 0 3 3;edge 0 1 1;edge 2 0 5;edge 1 3 6;edge 1 2 2;");
        int[][] weights = {{0, 1, 5, 3}, {1, 0, 2, 6}, {5, 2, 0, 7}, {3, 6, 7, 0}};
        int[] degrees = {9, 9, 14, 16};
        int turned = 0;
        for (int from = 0; from < 4; from++) {
            float[] now = new float[4];
            now[from] = 1.0f;
            for (int steps = 1; steps <= 100; steps++) {
                float[] next = new float[4];
                for (int y = 0; y < 4; y++) {
                    float upwards = 0.0f;
                    float downwards = 0.0f;
                    for (int k = 0; k < 4; k++) {
                        upwards += now[k] * ((float) weights[k][y] / (float) degrees[k]);
                        downwards += now[3 - k] * ((float) weights[3 - k][y] / (float) degrees[3 - k]);
                    }
                    turned += upwards != downwards ? 1 : 0;
                    next[y] = upwards;
                    Checks.same("after(" + from + ", " + y + ", " + steps + ")", x.after(from, y, steps), upwards);
                }
                now = next;
            }
        }
        int told = turned;
        Checks.yes("the order matters", () -> told > 0);
    }

    private static void absorbingVerticesDoNotEndIt() {
        Checks.sentence("Absorbing vertices do not end it: it goes on from them as from others (so do the steps of after).");
        RandomWalks x = Checks.loaded("walk 3;edge 0 1 1;absorb 0;absorb 1;");
        Checks.same("after(0, 1, 1)", x.after(0, 1, 1), 1.0f);
        Checks.same("after(0, 0, 1)", x.after(0, 0, 1), 0.0f);
        Checks.same("after(0, 0, 2)", x.after(0, 0, 2), 1.0f);
        Checks.same("walk of 1 step", x.walk(0, 1, 1, 0), 1);
        Checks.same("walk of 2 steps", x.walk(0, 2, 1, 0), 0);
        Checks.same("set of 2 steps", x.walk(0, 2, 1, 1), 3);
        Checks.same("cost of 1000 steps", x.walk(0, 1000, 1, 2), 1000);
    }

    private static void afterRefuses() {
        Checks.sentence("If several exceptions apply to a call, the one that comes first in the method's throws list is thrown.");
        RandomWalks x = Checks.loaded(PATH);
        Checks.noIndexOutside("after from", 4, v -> (long) x.after(v, 0, 101));
        Checks.noIndexOutside("after to", 4, v -> (long) x.after(0, v, -1));
        Checks.noArgumentOutside("after", 0, 100, steps -> (long) x.after(3, 3, steps));
    }

    private static void stepsWalked() {
        Checks.sentence("`steps`: 0 to 1000");
        RandomWalks x = Checks.loaded("walk 2;edge 0 1 5;cost 99;");
        Checks.same("a walk of no steps ends", x.walk(1, 0, 7, 0), 1);
        Checks.same("a walk of no steps has been", x.walk(1, 0, 7, 1), 2);
        Checks.same("a walk of no steps costs", x.walk(1, 0, 7, 2), 0);
        Checks.same("a walk of no steps is not absorbed", x.walk(1, 0, 7, 3), -1);
        Checks.same("a walk of 999 steps ends", x.walk(1, 999, 7, 0), 0);
        Checks.same("a walk of 1000 steps ends", x.walk(1, 1000, 7, 0), 1);
        Checks.same("a walk of 1000 steps has been", x.walk(1, 1000, 7, 1), 3);
        Checks.same("a walk of 1000 steps costs", x.walk(1, 1000, 7, 2), 99000);
        Checks.noArgumentOutside("steps", 0, 1000, steps -> x.walk(0, steps, 1, 0));
    }

    private static void seedsOfWalks() {
        Checks.sentence("`seed`: the drawing number at the beginning, 0 to 2147483647");
        RandomWalks x = Checks.loaded(STAR);
        for (int seed : new int[] {0, 1, 2, MOST_SEED / 2, MOST_SEED - 1, MOST_SEED}) {
            Checks.same("the seed " + seed, x.walk(3, 1, seed, 0), drawnFrom3(seed));
        }
        Checks.noArgumentOutside("seed", 0, MOST_SEED, seed -> x.walk(3, 1, seed, 0));
    }

    /** The vertex to which the first step from 3 in the star leads. */
    private static int drawnFrom3(long seed) {
        int[] ends = {0, 1, 1, 4, 4, 4};
        return ends[(int) ((seed * 1103515245L + 12345L) % 2147483648L / 65536 % 6)];
    }

    private static void partsOfWalks() {
        Checks.sentence("0 the vertex at which it ends, 1 the set of all its vertices (the first one, too), 2 the sum of its costs, "
                + "3 the number of steps before it is at an absorbing vertex for the first time");
        RandomWalks x = Checks.loaded("walk 6;edge 5 4 2;edge 1 0 3;cost weight*10+to;absorb 4;");
        int[] two = {5, 0b110000, 24 + 25, 1};
        for (int what = 0; what <= 3; what++) {
            Checks.same("two steps, " + what, x.walk(5, 2, 9, what), two[what]);
        }
        int[] one = {4, 0b110000, 24, 1};
        for (int what = 0; what <= 3; what++) {
            Checks.same("a step, " + what, x.walk(5, 1, 9, what), one[what]);
        }
        Checks.noArgumentOutside("what", 0, 3, what -> x.walk(5, 1, 9, what));
    }

    private static void walkRefuses() {
        Checks.sentence("If several exceptions apply to a call, the one that comes first in the method's throws list is thrown.");
        RandomWalks x = Checks.loaded(PATH);
        Checks.noIndexOutside("walk with a wrong number of steps", 4, v -> x.walk(v, 1001, 0, 0));
        Checks.noIndexOutside("walk with a wrong seed", 4, v -> x.walk(v, 0, -1, 0));
        Checks.noIndexOutside("walk with a wrong what", 4, v -> x.walk(v, 0, 0, 4));
        Checks.noArgument("walk with no right argument", () -> x.walk(0, -1, -1, -1));
    }

    private static void drawingNumbersAreModulo() {
        Checks.sentence("the drawing number s becomes (s * 1103515245 + 12345) modulo 2^31");
        RandomWalks x = Checks.loaded(STAR);
        for (int seed : new int[] {0, 12345, MOST_SEED}) {
            long s = seed;
            int place = 3;
            for (int steps = 1; steps <= 1000; steps++) {
                int next = place == 3 ? drawnFrom3(s) : 3;
                s = (s * 1103515245L + 12345L) % 2147483648L;
                place = next;
                if (steps <= 20 || steps >= 990) {
                    Checks.same("walk of " + steps + " from the seed " + seed, x.walk(3, steps, seed, 0), place);
                }
            }
        }
    }

    /** A step along the only edge draws as well: the draw after it is the second one. */
    private static void drawnNumbersAreModuloTheDegree() {
        Checks.sentence("the drawn number is (s / 65536) modulo the degree of the vertex, with the new s.");
        RandomWalks x = Checks.loaded(STAR);
        for (int seed = 0; seed < 300; seed++) {
            long s = (seed * 1103515245L + 12345L) % 2147483648L;
            Checks.same("the first draw of " + seed, x.walk(3, 1, seed, 0), drawnFrom3(seed));
            Checks.same("the second draw of " + seed, x.walk(0, 2, seed, 0), drawnFrom3(s));
        }
    }

    /** Seeds for each drawn number from 0 to 14: each is the last one of a vertex, the first one, or between. */
    private static void firstSumThatIsGreater() {
        Checks.sentence("the step leads to the first one at which the sum is greater than the drawn number.");
        RandomWalks x = Checks.loaded("walk 6;edge 2 5 4;edge 2 4 1;edge 3 2 1;edge 1 2 7;edge 0 2 2;");
        int[] ends = {0, 0, 1, 1, 1, 1, 1, 1, 1, 3, 4, 5, 5, 5, 5};
        int seen = 0;
        for (int seed = 0; seed < 500; seed++) {
            int drawn = (int) ((seed * 1103515245L + 12345L) % 2147483648L / 65536 % 15);
            seen |= 1 << drawn;
            Checks.same("the drawn number " + drawn, x.walk(2, 1, seed, 0), ends[drawn]);
        }
        int all = seen;
        Checks.yes("all are drawn", () -> all == (1 << 15) - 1);
    }

    private static void stepWithoutDraw() {
        Checks.sentence("A step from a vertex without edges leads to itself, without a draw, and costs 0.");
        RandomWalks x = Checks.loaded("walk 6;edge 0 1 1;cost 7;");
        for (int v = 2; v < 6; v++) {
            Checks.same("end", x.walk(v, 1000, 1, 0), v);
            Checks.same("set", x.walk(v, 1000, 1, 1), 1 << v);
            Checks.same("cost", x.walk(v, 1000, 1, 2), 0);
            Checks.same("absorbed", x.walk(v, 1000, 1, 3), -1);
        }
        x.setAbsorbing(5, true);
        Checks.same("absorbed at the beginning", x.walk(5, 1000, 1, 3), 0);
        Checks.same("cost of steps with edges", x.walk(0, 1000, 1, 2), 7000);
        x.removeEdge(0);
        Checks.same("cost without the edge", x.walk(0, 1000, 1, 2), 0);
        Checks.same("end without the edge", x.walk(0, 999, 1, 0), 0);
    }

    private static void costsOfWalks() {
        Checks.sentence("2 the sum of its costs");
        RandomWalks x = Checks.loaded("walk 3;edge 0 1 5;edge 1 2 5;cost from*10+to;");
        int place = 0;
        int cost = 0;
        for (int steps = 1; steps <= 50; steps++) {
            int to = x.walk(0, steps, 77, 0);
            cost += place * 10 + to;
            place = to;
            Checks.same("cost of " + steps, x.walk(0, steps, 77, 2), cost);
        }
        RandomWalks most = Checks.loaded("walk 2;edge 0 1 9;cost 9999*9999;");
        Checks.same("the most", most.walk(0, 1000, 1, 2), 99000);
        RandomWalks least = Checks.loaded("walk 2;edge 0 1 9;cost 0-9999;");
        Checks.same("the least", least.walk(0, 1000, 1, 2), 0);
    }

    private static void absorbedForTheFirstTime() {
        Checks.sentence("(0 if it begins at one), or -1 if it never is");
        RandomWalks x = Checks.loaded("walk 4;edge 0 1 1;edge 1 2 1;edge 2 3 1;absorb 3;");
        Checks.same("at the beginning, no steps", x.walk(3, 0, 1, 3), 0);
        Checks.same("at the beginning", x.walk(3, 1000, 1, 3), 0);
        int first = x.walk(0, 1000, 1, 3);
        Checks.yes("not before the third step", () -> first >= 3);
        Checks.same("at the last step", x.walk(0, first, 1, 3), first);
        Checks.same("is there then", x.walk(0, first, 1, 0), 3);
        Checks.same("not before", x.walk(0, first - 1, 1, 3), -1);
        Checks.same("has not been there", x.walk(0, first - 1, 1, 1) & 8, 0);
        Checks.same("no steps", x.walk(0, 0, 1, 3), -1);
        x.setAbsorbing(1, true);
        Checks.same("at another one", x.walk(0, 1000, 1, 3), 1);
        x.setAbsorbing(1, false);
        x.setAbsorbing(3, false);
        Checks.same("never", x.walk(0, 1000, 1, 3), -1);
        Checks.same("never, though it began there", x.walk(3, 1000, 1, 3), -1);
    }

    private static void nothingChanges() {
        Checks.sentence("Makes a walk by draws; nothing changes.");
        RandomWalks x = Checks.loaded(PATH + "absorb 2;");
        long sum = x.checksum();
        int end = x.walk(1, 501, 3, 0);
        x.walk(2, 1000, 5, 3);
        x.after(0, 1, 100);
        Checks.same("the same walk", x.walk(1, 501, 3, 0), end);
        Checks.same("checksum", x.checksum(), sum);
        Checks.same("undo of the load alone", x.undo(), 0);
    }
}

import java.math.BigInteger;
import java.util.function.LongSupplier;

/**
 * The changes, undo and the checksum (promises 27 to 30, 34 and 35, and what the document says of all changes),
 * a sentence of the document at a time: each that names a boundary is tested on both of its sides.
 */
final class ChangesBoundsTest {
    private static final String TEXT = "walk 4;edge 0 1 1;edge 1 2 2;edge 2 3 3;absorb 3;join 0 2;cost to*9;";

    public static void main(String[] args) {
        setWeightReturnsThePrevious();
        setWeightRefuses();
        addEdgeBehindTheOthers();
        addEdgeRefuses();
        addEdgeBetweenAllPairs();
        removeEdgeMovesTheOthers();
        removeEdgeOfTheLast();
        setAbsorbingTwice();
        changesOfNothingCount();
        noChangesDoNotCount();
        latest8CanBeUndone();
        undoneChangesAreGone();
        undoOfNothing();
        undoLeavesTheBuffer();
        undoRestoresAll();
        throwingChangesNothing();
        throwingKeepsTheBuffer();
        checksumInOrder();
        checksumWrapsAround();
        checksumOfNothing();
        Checks.end("ChangesBoundsTest");
    }

    private static void setWeightReturnsThePrevious() {
        Checks.sentence("Returns its previous weight.");
        RandomWalks x = Checks.loaded(TEXT);
        int previous = 3;
        for (int weight = 1; weight <= 9; weight++) {
            Checks.same("setWeight", x.setWeight(2, weight), previous);
            Checks.same("weight", x.edge(2, 2), weight);
            Checks.same("degree(3)", x.degree(3), weight);
            Checks.same("degree(2)", x.degree(2), weight + 2);
            previous = weight;
        }
        Checks.same("setWeight of the same", x.setWeight(2, 9), 9);
        Checks.same("low", x.edge(2, 0), 2);
        Checks.same("high", x.edge(2, 1), 3);
        Checks.same("another weight", x.edge(0, 2), 1);
    }

    private static void setWeightRefuses() {
        Checks.sentence("`weight`: 1 to 9");
        RandomWalks x = Checks.loaded(TEXT);
        Checks.noIndexOutside("setWeight", 3, e -> x.setWeight(e, 5));
        Checks.noIndexOutside("setWeight to 0", 3, e -> x.setWeight(e, 0));
        Checks.noArgumentOutside("setWeight", 1, 9, weight -> x.setWeight(0, weight));
        Checks.noArgumentOutside("addEdge", 1, 9, weight -> x.addEdge(0, 3, weight));
        Checks.same("addEdge of 9", x.addEdge(0, 3, 9), 3);
        Checks.same("addEdge of 1", x.addEdge(0, 2, 1), 4);
    }

    private static void addEdgeBehindTheOthers() {
        Checks.sentence("Adds an edge behind the others.");
        RandomWalks x = Checks.loaded(TEXT);
        Checks.same("addEdge", x.addEdge(3, 0, 9), 3);
        Checks.same("addEdge", x.addEdge(0, 2, 1), 4);
        Checks.same("low", x.edge(3, 0), 0);
        Checks.same("high", x.edge(3, 1), 3);
        Checks.same("weight", x.edge(3, 2), 9);
        Checks.same("cost", x.edge(3, 3), 27);
        Checks.same("cost back", x.edge(3, 4), 0);
        Checks.same("high of the next", x.edge(4, 1), 2);
        x.removeEdge(0);
        Checks.same("addEdge of a removed one", x.addEdge(1, 0, 7), 4);
        Checks.same("low", x.edge(4, 0), 0);
        Checks.same("high", x.edge(4, 1), 1);
        Checks.same("weight", x.edge(4, 2), 7);
    }

    private static void addEdgeRefuses() {
        Checks.sentence("if both are the same, or weight is out of range");
        RandomWalks x = Checks.loaded(TEXT);
        for (int v = 0; v < 4; v++) {
            int same = v;
            Checks.noArgument("addEdge of the same", () -> x.addEdge(same, same, 5));
            Checks.noIndexOutside("addEdge of the same, which does not exist", 4, k -> x.addEdge(k, k, 0));
        }
        Checks.sentence("If several exceptions apply to a call, the one that comes first in the method's throws list is thrown.");
        Checks.noArgument("addEdge of an edge with the weight 0", () -> x.addEdge(0, 1, 0));
        Checks.noArgument("addEdge of an edge with the weight 10", () -> x.addEdge(1, 0, 10));
        Checks.noIndexOutside("addEdge from what does not exist", 4, v -> x.addEdge(v, 0, 0));
        Checks.noIndexOutside("addEdge to what does not exist", 4, v -> x.addEdge(0, v, 10));
        Checks.noArgument("addEdge of the same with the weight 0", () -> x.addEdge(1, 1, 0));
    }

    private static void addEdgeBetweenAllPairs() {
        Checks.sentence("if there is an edge between them");
        RandomWalks x = Checks.loaded("walk 6;");
        for (int a = 0; a < 6; a++) {
            for (int b = a + 1; b < 6; b++) {
                int low = a;
                int high = b;
                x.addEdge(b, a, 9);
                Checks.noState("addEdge again", () -> x.addEdge(high, low, 9));
                Checks.noState("addEdge the other way", () -> x.addEdge(low, high, 1));
            }
        }
        Checks.same("edgeCount", x.edgeCount(), 15);
        x.removeEdge(7);
        Checks.same("addEdge of the removed one", x.addEdge(1, 4, 1), 14);
    }

    private static void removeEdgeMovesTheOthers() {
        Checks.sentence("Removes an edge; the indexes of the edges behind it become smaller by 1.");
        int[] lows = {0, 0, 0, 1, 2};
        int[] highs = {1, 2, 3, 2, 3};
        for (int gone = 0; gone < 5; gone++) {
            RandomWalks x = Checks.loaded("walk 4;edge 0 1 1;edge 0 2 2;edge 3 0 3;edge 1 2 4;edge 2 3 5;");
            Checks.same("removeEdge(" + gone + ")", x.removeEdge(gone), 4);
            Checks.same("edgeCount", x.edgeCount(), 4);
            for (int e = 0; e < 4; e++) {
                int old = e < gone ? e : e + 1;
                Checks.same("low of " + e, x.edge(e, 0), lows[old]);
                Checks.same("high of " + e, x.edge(e, 1), highs[old]);
                Checks.same("weight of " + e, x.edge(e, 2), old + 1);
            }
            Checks.noIndexOutside("edge", 4, e -> x.edge(e, 0));
            Checks.same("transition", x.transition(lows[gone], highs[gone], false), 0);
            Checks.same("undo", x.undo(), 1);
            Checks.same("weight of the removed one", x.edge(gone, 2), gone + 1);
        }
    }

    private static void removeEdgeOfTheLast() {
        Checks.sentence("Returns the number of edges then.");
        RandomWalks x = Checks.loaded("walk 3;edge 0 1 1;edge 1 2 2;");
        Checks.noIndexOutside("removeEdge", 2, x::removeEdge);
        Checks.same("removeEdge", x.removeEdge(1), 1);
        Checks.same("removeEdge", x.removeEdge(0), 0);
        Checks.noIndexOutside("removeEdge without edges", 0, x::removeEdge);
        Checks.same("edgeCount", x.edgeCount(), 0);
        Checks.same("degree(1)", x.degree(1), 0);
        Checks.same("reachable(1)", x.reachable(1), 2);
        Checks.same("trees", x.trees(), 0);
    }

    private static void setAbsorbingTwice() {
        Checks.sentence("Makes a vertex absorbing, or not.");
        RandomWalks x = Checks.loaded("walk 6;absorb 2;");
        Checks.same("of the last", x.setAbsorbing(5, true), 36);
        Checks.same("of the last again", x.setAbsorbing(5, true), 36);
        Checks.same("of the first", x.setAbsorbing(0, true), 37);
        Checks.same("not", x.setAbsorbing(2, false), 33);
        Checks.same("not again", x.setAbsorbing(2, false), 33);
        Checks.same("not of the others", x.setAbsorbing(0, false) + x.setAbsorbing(5, false), 32);
        Checks.same("absorbing", x.absorbing(), 0);
        Checks.noIndexOutside("setAbsorbing", 6, v -> x.setAbsorbing(v, false));
    }

    private static void changesOfNothingCount() {
        Checks.sentence("Each such call that does not throw an exception is a change, also if all data stay as they were.");
        RandomWalks x = Checks.loaded(TEXT);
        long sum = x.checksum();
        x.setWeight(0, 1);
        x.setAbsorbing(3, true);
        x.setAbsorbing(0, false);
        x.join(2, 0);
        x.join(1, 1);
        x.separate(3);
        Checks.same("checksum", x.checksum(), sum);
        for (int left = 6; left >= 1; left--) {
            Checks.same("undo", x.undo(), left);
            Checks.same("checksum", x.checksum(), sum);
        }
        x.refine();
        sum = x.checksum();
        x.refine();
        Checks.same("checksum after refine", x.checksum(), sum);
        Checks.same("undo of refine", x.undo(), 2);
        Checks.same("checksum", x.checksum(), sum);
        x.undo();
        Checks.load(x, TEXT);
        Checks.same("undo of the same load", x.undo(), 1);
        RandomWalks nothing = new RandomWalks();
        nothing.refine();
        nothing.refine();
        Checks.same("undo of refine without vertices", nothing.undo(), 1);
        Checks.same("undo of refine without vertices", nothing.undo(), 0);
        Checks.same("undo", nothing.undo(), -1);
    }

    private static void noChangesDoNotCount() {
        Checks.sentence("The changing methods are load (when it succeeds), setWeight, addEdge, removeEdge, setAbsorbing, join, "
                + "separate and refine.");
        RandomWalks x = Checks.loaded(TEXT);
        x.setWeight(0, 9);
        long sum = x.checksum();
        x.append(0, 0, 0, 0, 0);
        Checks.yes("load of an error", () -> x.load(20) < 0);
        Checks.yes("load of an empty text", () -> x.load(0) < 0);
        x.edge(0, 4);
        x.degree(0);
        x.reachable(0);
        x.transition(0, 1, true);
        x.hittingTime(0, 3, true);
        x.hittingCost(3, 0, true);
        x.commuteTime(0, 3, true);
        x.resistance(0, 3, true);
        x.trees();
        x.absorption(0, 3, true);
        x.absorptionTime(0, true);
        x.isLumpable();
        x.parted();
        x.after(0, 3, 50);
        x.walk(0, 50, 1, 2);
        x.checksum();
        Checks.same("checksum", x.checksum(), sum);
        Checks.same("undo of setWeight", x.undo(), 1);
        x.separate(0);
        x.lumped(0, 1, true);
        x.lumpedTime(0, 3, true);
        Checks.same("undo of separate", x.undo(), 1);
        Checks.same("weight", x.edge(0, 2), 1);
    }

    private static void latest8CanBeUndone() {
        Checks.sentence("The latest 8 changes that have not been undone can be undone, the latest one first.");
        for (int changes = 0; changes <= 20; changes++) {
            // With the load, a change more than these.
            RandomWalks x = Checks.loaded("walk 2;edge 0 1 9;");
            for (int k = 1; k <= changes; k++) {
                x.setWeight(0, 1 + k % 8);
            }
            int most = Math.min(8, changes + 1);
            for (int undone = 1; undone <= most; undone++) {
                Checks.same("undo " + undone + " of " + changes, x.undo(), most - undone);
                int left = changes - undone;
                Checks.same("size", x.size(), left < 0 ? 0 : 2);
                if (left >= 0) {
                    Checks.same("weight", x.edge(0, 2), left == 0 ? 9 : 1 + left % 8);
                }
            }
            long sum = x.checksum();
            Checks.same("undo of none", x.undo(), -1);
            Checks.same("checksum", x.checksum(), sum);
        }
    }

    private static void undoneChangesAreGone() {
        Checks.sentence("Undoes the latest change that has not been undone.");
        RandomWalks x = Checks.loaded("walk 2;edge 0 1 9;");
        for (int weight = 1; weight <= 9; weight++) {
            x.setWeight(0, weight);
        }
        Checks.same("undo of 9", x.undo(), 7);
        Checks.same("undo of 8", x.undo(), 6);
        x.setWeight(0, 5);
        Checks.same("undo of 5", x.undo(), 6);
        Checks.same("weight", x.edge(0, 2), 7);
        x.setWeight(0, 4);
        x.setWeight(0, 3);
        x.setWeight(0, 2);
        Checks.same("undo of 2, as 8 are kept", x.undo(), 7);
        int[] due = {4, 7, 6, 5, 4, 3, 2};
        for (int k = 0; k < 7; k++) {
            Checks.same("undo", x.undo(), 6 - k);
            Checks.same("weight", x.edge(0, 2), due[k]);
        }
        Checks.same("undo of none", x.undo(), -1);
        x.setWeight(0, 9);
        Checks.same("undo after none", x.undo(), 0);
        Checks.same("weight", x.edge(0, 2), 2);
    }

    private static void undoOfNothing() {
        Checks.sentence("-1 if there was none to undo, and nothing changes then.");
        RandomWalks x = new RandomWalks();
        Checks.same("undo of a new object", x.undo(), -1);
        Checks.same("undo again", x.undo(), -1);
        Checks.load(x, TEXT);
        Checks.same("undo of the load", x.undo(), 0);
        Checks.same("undo", x.undo(), -1);
        Checks.same("size", x.size(), 0);
        Checks.load(x, TEXT);
        for (int k = 0; k < 8; k++) {
            x.setAbsorbing(k % 4, k % 3 == 0);
        }
        for (int k = 7; k >= 0; k--) {
            Checks.same("undo", x.undo(), k);
        }
        Checks.same("undo of the load, which is too old", x.undo(), -1);
        Checks.same("size", x.size(), 4);
        Checks.same("absorbing", x.absorbing(), 8);
        Checks.same("weight", x.edge(2, 2), 3);
        Checks.same("cost", x.edge(0, 3), 9);
    }

    private static void undoLeavesTheBuffer() {
        Checks.sentence("The input buffer and the error offset are not affected.");
        RandomWalks x = Checks.loaded(TEXT);
        x.refine();
        Checks.load(x, "walk 2;  $");
        Checks.append(x, "walk 3;absorb 1;");
        Checks.same("undo of refine", x.undo(), 1);
        Checks.same("errorOffset", x.errorOffset(), 9);
        Checks.same("undo of load", x.undo(), 0);
        Checks.same("undo of none", x.undo(), -1);
        Checks.same("errorOffset", x.errorOffset(), 9);
        Checks.same("append behind what is there", x.append(0, 0, 0, 0, 0), 40);
        Checks.same("load of what was there", x.load(16), 0);
        Checks.same("absorbing", x.absorbing(), 2);
        Checks.same("errorOffset of no error", x.errorOffset(), -1);
        Checks.same("undo", x.undo(), 0);
        Checks.same("errorOffset of no error", x.errorOffset(), -1);
        Checks.noArgument("load of the buffer that was emptied", () -> x.load(1));
    }

    private static void undoRestoresAll() {
        Checks.sentence("Undoes the latest change that has not been undone.");
        RandomWalks x = Checks.loaded("walk 6;edge 0 1 1;edge 4 2 5;edge 1 5 2;absorb 5;absorb 0;join 3 5;cost from*7+to;");
        checkUndo("setWeight", x, () -> x.setWeight(1, 9));
        checkUndo("addEdge", x, () -> x.addEdge(5, 0, 9));
        checkUndo("removeEdge", x, () -> x.removeEdge(0));
        checkUndo("setAbsorbing", x, () -> x.setAbsorbing(5, false));
        checkUndo("setAbsorbing", x, () -> x.setAbsorbing(1, true));
        checkUndo("join", x, () -> x.join(0, 5));
        checkUndo("separate", x, () -> x.separate(3));
        checkUndo("refine", x, x::refine);
        checkUndo("load", x, () -> Checks.load(x, "walk 2;edge 0 1 9;absorb 1;join 0 1;cost 3;"));
    }

    /** All that can be seen is as it was, after a change that changes some of it and an undo. */
    private static void checkUndo(String change, RandomWalks x, LongSupplier call) {
        String before = told(x);
        call.getAsLong();
        Checks.yes(change + " changes something", () -> !told(x).equals(before));
        Checks.same("undo of " + change, x.undo(), 1);
        Checks.yes("all is as it was before " + change, () -> told(x).equals(before));
        Checks.same("a change of nothing", x.setAbsorbing(0, (x.absorbing() & 1) != 0), x.absorbing());
        Checks.same("undo of it", x.undo(), 1);
    }

    private static String told(RandomWalks x) {
        StringBuilder told = new StringBuilder();
        told.append(x.size()).append(' ').append(x.absorbing()).append(' ').append(x.blockCount());
        for (int e = 0; e < x.edgeCount(); e++) {
            for (int what = 0; what <= 4; what++) {
                told.append(' ').append(x.edge(e, what));
            }
        }
        for (int v = 0; v < x.size(); v++) {
            told.append(' ').append(x.blockOf(v)).append(' ').append(x.degree(v)).append(' ').append(x.reachable(v));
            told.append(' ').append(x.walk(v, 100, v, 2));
        }
        return told.append(' ').append(x.checksum()).toString();
    }

    private static void throwingChangesNothing() {
        Checks.sentence("A method that throws an exception changes nothing.");
        RandomWalks x = Checks.loaded(TEXT);
        String before = told(x);
        Checks.noIndexOutside("setWeight", 3, e -> x.setWeight(e, 9));
        Checks.noArgumentOutside("setWeight", 1, 9, weight -> x.setWeight(0, weight));
        Checks.noIndexOutside("addEdge", 4, v -> x.addEdge(v, 0, 9));
        Checks.noArgumentOutside("addEdge", 1, 9, weight -> x.addEdge(0, 3, weight));
        Checks.noState("addEdge", () -> x.addEdge(1, 0, 9));
        Checks.noIndexOutside("removeEdge", 3, x::removeEdge);
        Checks.noIndexOutside("setAbsorbing", 4, v -> x.setAbsorbing(v, true));
        Checks.noIndexOutside("join", 4, v -> x.join(0, v));
        Checks.noIndexOutside("separate", 4, x::separate);
        Checks.noArgumentOutside("load", 0, 0, x::load);
        Checks.noArgument("absorption", () -> x.absorption(0, 1, true));
        Checks.noArgument("walk", () -> x.walk(0, 1001, 0, 0));
        Checks.noState("lumped", () -> x.lumped(0, 1, true));
        Checks.yes("all is as it was", () -> told(x).equals(before));
        Checks.same("undo of the load alone", x.undo(), 0);
        Checks.same("undo of none", x.undo(), -1);
    }

    private static void throwingKeepsTheBuffer() {
        Checks.sentence("A method that throws an exception changes nothing.");
        RandomWalks x = new RandomWalks();
        Checks.load(x, "walk 2;  $");
        Checks.append(x, "walk 3;absorb 1;");
        Checks.noArgumentOutside("load", 0, 20, x::load);
        Checks.noIndexOutside("separate", 0, x::separate);
        Checks.noIndexOutside("removeEdge", 0, x::removeEdge);
        Checks.same("errorOffset", x.errorOffset(), 9);
        Checks.same("load of what was there", x.load(16), 0);
        Checks.same("absorbing", x.absorbing(), 2);
    }

    private static void checksumInOrder() {
        Checks.sentence("size(), absorbing(); for each edge its ends (the smaller number first) and its weight; "
                + "for each vertex blockOf(vertex); then trees().");
        RandomWalks x = Checks.loaded("walk 3;edge 2 0 4;edge 1 0 3;absorb 1;join 1 2;");
        checkSum("two edges", x, 3, 2, 0, 2, 4, 0, 1, 3, 0, 1, 1, 12);
        x.removeEdge(0);
        checkSum("an edge", x, 3, 2, 0, 1, 3, 0, 1, 1, 0);
        x.removeEdge(0);
        checkSum("no edges", x, 3, 2, 0, 1, 1, 0);
        x.setAbsorbing(1, false);
        x.separate(2);
        checkSum("no absorbing vertex", x, 3, 0, 0, 1, 2, 0);
        checkSum("two vertices", Checks.loaded("walk 2;"), 2, 0, 0, 1, 0);
        checkSum("cost expressions do not count", Checks.loaded("walk 2;edge 0 1 9;cost 7;"), 2, 0, 0, 1, 9, 0, 1, 9);
    }

    private static void checkSum(String what, RandomWalks x, long... told) {
        BigInteger due = BigInteger.ZERO;
        for (long n : told) {
            due = due.multiply(BigInteger.valueOf(31)).add(BigInteger.valueOf(n));
        }
        Checks.same("checksum of " + what, x.checksum(), due.longValue());
    }

    private static void checksumWrapsAround() {
        Checks.sentence("each number n in the following order replaces it by 31 * checksum + n, wrapping around on overflow of a long");
        RandomWalks x = Checks.loaded("walk 6;absorb 0;absorb 5;");
        long[] told = new long[54];
        told[0] = 6;
        told[1] = 33;
        int next = 2;
        for (int a = 0; a < 6; a++) {
            for (int b = a + 1; b < 6; b++) {
                x.addEdge(b, a, 9);
                told[next] = a;
                told[next + 1] = b;
                told[next + 2] = 9;
                next += 3;
            }
        }
        for (int v = 0; v < 6; v++) {
            told[next + v] = v;
        }
        told[53] = 76527504;
        checkSum("all edges", x, told);
    }

    private static void checksumOfNothing() {
        Checks.sentence("It starts at 0");
        Checks.same("checksum of a new object", new RandomWalks().checksum(), 0);
        RandomWalks x = Checks.loaded("walk 6;");
        x.undo();
        Checks.same("checksum of an undone load", x.checksum(), 0);
    }
}

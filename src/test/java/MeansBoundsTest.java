/**
 * Mean times and costs, resistances, trees and absorption (promises 11 to 15, 17 and 18), a sentence of the
 * document at a time: each that names a boundary is tested on both of its sides.
 */
final class MeansBoundsTest {
    private static final String PATH = "walk 6;edge 0 1 1;edge 1 2 1;edge 2 3 1;edge 3 4 1;edge 4 5 1;";
    private static final String UNEVEN = "walk 6;edge 0 1 1;edge 1 2 9;edge 2 3 9;edge 3 4 9;edge 4 5 9;";
    /** A triangle, an edge, and a vertex without edges. */
    private static final String PARTS = "walk 6;edge 0 1 1;edge 1 2 2;edge 2 0 3;edge 3 4 9;absorb 1;cost weight;";

    public static void main(String[] args) {
        hittingTimeIs0AtItsEnd();
        hittingTimeOfTheLongestWays();
        hittingTimeForTheFirstTime();
        hittingCostIs0AtItsEnd();
        hittingCostOfTheLeastAndTheMost();
        hittingCostOfEachDirection();
        cannotBeReached();
        indexBeforeState();
        commuteTimeIsThereAndBack();
        resistanceIs0AtItself();
        resistanceByReachedDegrees();
        noTreesWithoutVertices();
        noTreesIfNotAllAreConnected();
        treesOfAllEdges();
        theBeginningCounts();
        theFirstAbsorbingVertexCounts();
        absorptionAtOneNotAbsorbing();
        noAbsorbingVertexCanBeReached();
        exceptionsOfAbsorption();
        absorptionOnTheLongestWays();
        Checks.end("MeansBoundsTest");
    }

    private static void hittingTimeIs0AtItsEnd() {
        Checks.sentence("The hitting time from x to y is the mean number of steps until a walk that begins at x is at y "
                + "for the first time (0 if x is y)");
        RandomWalks x = Checks.loaded(PARTS);
        for (int v = 0; v < 6; v++) {
            int at = v;
            Checks.fraction("hittingTime of " + v, below -> x.hittingTime(at, at, below), 0, 1);
        }
        Checks.fraction("hittingTime(3, 4)", below -> x.hittingTime(3, 4, below), 1, 1);
        Checks.fraction("hittingTime(0, 1)", below -> x.hittingTime(0, 1, below), 35, 11);
    }

    private static void hittingTimeOfTheLongestWays() {
        Checks.sentence("Returns the hitting time.");
        RandomWalks path = Checks.loaded(PATH);
        for (int v = 0; v <= 5; v++) {
            int from = v;
            Checks.fraction("hittingTime(" + v + ", 5)", below -> path.hittingTime(from, 5, below), 25 - v * v, 1);
            Checks.fraction("hittingTime(" + v + ", 0)", below -> path.hittingTime(from, 0, below), 25 - (5 - v) * (5 - v), 1);
        }
        RandomWalks uneven = Checks.loaded(UNEVEN);
        Checks.fraction("hittingTime(5, 0)", below -> uneven.hittingTime(5, 0, below), 89, 1);
        Checks.fraction("hittingTime(0, 5)", below -> uneven.hittingTime(0, 5, below), 161, 9);
        Checks.fraction("hittingTime(1, 2)", below -> uneven.hittingTime(1, 2, below), 11, 9);
    }

    private static void hittingTimeForTheFirstTime() {
        Checks.sentence("Absorbing vertices do not end it: it goes on from them as from others");
        // The hitting time ends at y alone, whatever is absorbing on the way.
        RandomWalks x = Checks.loaded(PATH + "absorb 2;absorb 0;");
        Checks.fraction("hittingTime(1, 4)", below -> x.hittingTime(1, 4, below), 15, 1);
        Checks.fraction("hittingCost(1, 4)", below -> x.hittingCost(1, 4, below), 15, 1);
        Checks.fraction("commuteTime(1, 4)", below -> x.commuteTime(1, 4, below), 30, 1);
    }

    private static void hittingCostIs0AtItsEnd() {
        Checks.sentence("the hitting cost is the mean sum of the costs of these steps.");
        RandomWalks x = Checks.loaded(PARTS);
        for (int v = 0; v < 6; v++) {
            int at = v;
            Checks.fraction("hittingCost of " + v, below -> x.hittingCost(at, at, below), 0, 1);
        }
        Checks.fraction("hittingCost(3, 4)", below -> x.hittingCost(3, 4, below), 9, 1);
    }

    private static void hittingCostOfTheLeastAndTheMost() {
        Checks.sentence("limited to the range 0 to 99.");
        RandomWalks most = Checks.loaded(UNEVEN + "cost 9999;");
        Checks.fraction("hittingCost of 99 a step", below -> most.hittingCost(5, 0, below), 99 * 89, 1);
        Checks.fraction("hittingCost of 99 a step", below -> most.hittingCost(0, 5, below), 11 * 161, 1);
        RandomWalks least = Checks.loaded(UNEVEN + "cost 0-1;");
        Checks.fraction("hittingCost of 0 a step", below -> least.hittingCost(5, 0, below), 0, 1);
        RandomWalks one = Checks.loaded(UNEVEN);
        Checks.fraction("hittingCost of 1 a step", below -> one.hittingCost(5, 0, below), 89, 1);
        // Other costs as far as the weak edge lets them count: the step to 0 alone costs 1.
        RandomWalks last = Checks.loaded(UNEVEN + "cost 1/(to+1);");
        Checks.fraction("hittingCost of the last step", below -> last.hittingCost(5, 0, below), 1, 1);
    }

    private static void hittingCostOfEachDirection() {
        Checks.sentence("from the vertex that is left, and to the one that is reached.");
        RandomWalks to = Checks.loaded("walk 3;edge 0 1 1;edge 1 2 1;cost to;");
        Checks.fraction("hittingCost(0, 2)", below -> to.hittingCost(0, 2, below), 4, 1);
        Checks.fraction("hittingCost(2, 0)", below -> to.hittingCost(2, 0, below), 4, 1);
        RandomWalks from = Checks.loaded("walk 3;edge 0 1 1;edge 1 2 1;cost from*3;");
        Checks.fraction("hittingCost(0, 2)", below -> from.hittingCost(0, 2, below), 6, 1);
        Checks.fraction("hittingCost(2, 0)", below -> from.hittingCost(2, 0, below), 18, 1);
    }

    private static void cannotBeReached() {
        Checks.sentence("if the latter cannot be reached from the former");
        RandomWalks x = Checks.loaded(PARTS);
        int[] part = {0, 0, 0, 1, 1, 2};
        for (int a = 0; a < 6; a++) {
            for (int b = 0; b < 6; b++) {
                int from = a;
                int to = b;
                String ends = "(" + a + ", " + b + ")";
                if (part[a] == part[b]) {
                    Checks.yes("hittingTime" + ends, () -> x.hittingTime(from, to, true) > 0);
                    Checks.yes("hittingCost" + ends, () -> x.hittingCost(from, to, true) > 0);
                    Checks.yes("commuteTime" + ends, () -> x.commuteTime(from, to, true) > 0);
                    Checks.yes("resistance" + ends, () -> x.resistance(from, to, true) > 0);
                } else {
                    Checks.noState("hittingTime" + ends, () -> x.hittingTime(from, to, false));
                    Checks.noState("hittingCost" + ends, () -> x.hittingCost(from, to, false));
                    Checks.noState("commuteTime" + ends, () -> x.commuteTime(from, to, false));
                    Checks.noState("resistance" + ends, () -> x.resistance(from, to, false));
                }
            }
        }
    }

    private static void indexBeforeState() {
        Checks.sentence("If several exceptions apply to a call, the one that comes first in the method's throws list is thrown.");
        // Neither end of these can be reached from the other, as it does not exist.
        RandomWalks x = Checks.loaded("walk 5;");
        Checks.noIndexOutside("hittingTime", 5, v -> x.hittingTime(4, v, true));
        Checks.noIndexOutside("hittingCost", 5, v -> x.hittingCost(4, v, true));
        Checks.noIndexOutside("commuteTime", 5, v -> x.commuteTime(v, 4, true));
        Checks.noIndexOutside("resistance", 5, v -> x.resistance(v, v, true));
        Checks.noIndexOutside("absorptionTime", 5, v -> x.absorptionTime(v, true));
    }

    private static void commuteTimeIsThereAndBack() {
        Checks.sentence("The commute time of x and y is the hitting time from x to y plus that from y to x.");
        RandomWalks x = Checks.loaded(UNEVEN);
        Checks.fraction("commuteTime(0, 5)", below -> x.commuteTime(0, 5, below), 962, 9);
        Checks.fraction("commuteTime(5, 0)", below -> x.commuteTime(5, 0, below), 962, 9);
        Checks.fraction("commuteTime(0, 1)", below -> x.commuteTime(0, 1, below), 74, 1);
        Checks.fraction("commuteTime(4, 5)", below -> x.commuteTime(4, 5, below), 74, 9);
        RandomWalks parts = Checks.loaded(PARTS);
        for (int v = 0; v < 6; v++) {
            int at = v;
            Checks.fraction("commuteTime of " + v, below -> parts.commuteTime(at, at, below), 0, 1);
        }
        Checks.fraction("commuteTime(3, 4)", below -> parts.commuteTime(3, 4, below), 2, 1);
    }

    private static void resistanceIs0AtItself() {
        Checks.sentence("(0 if x is y).");
        RandomWalks x = Checks.loaded(PARTS);
        for (int v = 0; v < 6; v++) {
            int at = v;
            Checks.fraction("resistance of " + v, below -> x.resistance(at, at, below), 0, 1);
        }
        RandomWalks none = Checks.loaded("walk 2;");
        Checks.fraction("resistance without edges", below -> none.resistance(1, 1, below), 0, 1);
    }

    private static void resistanceByReachedDegrees() {
        Checks.sentence("The resistance of x and y is their commute time divided by the sum of the degrees of all vertices "
                + "that can be reached from x");
        RandomWalks x = Checks.loaded(PARTS);
        Checks.fraction("resistance(0, 1)", below -> x.resistance(0, 1, below), 5, 11);
        Checks.fraction("resistance(1, 2)", below -> x.resistance(1, 2, below), 4, 11);
        Checks.fraction("resistance(3, 4)", below -> x.resistance(3, 4, below), 1, 9);
        RandomWalks path = Checks.loaded(UNEVEN);
        Checks.fraction("resistance(0, 5)", below -> path.resistance(0, 5, below), 13, 9);
        Checks.fraction("resistance(0, 1)", below -> path.resistance(0, 1, below), 1, 1);
        RandomWalks full = Checks.loaded(Checks.full(9));
        Checks.fraction("resistance of all edges", below -> full.resistance(2, 4, below), 1, 27);
        Checks.fraction("commuteTime of all edges", below -> full.commuteTime(2, 4, below), 10, 1);
    }

    private static void noTreesWithoutVertices() {
        Checks.sentence("Returns the number of weighted trees; 0 if there are no vertices.");
        RandomWalks x = new RandomWalks();
        Checks.same("trees of a new object", x.trees(), 0);
        Checks.load(x, "walk 2;edge 0 1 9");
        Checks.same("trees after an error", x.trees(), 0);
        Checks.load(x, "walk 2;edge 0 1 9;");
        Checks.same("trees of an edge", x.trees(), 9);
        x.undo();
        Checks.same("trees after an undone load", x.trees(), 0);
    }

    private static void noTreesIfNotAllAreConnected() {
        Checks.sentence("The number of weighted trees is the sum, over all sets of n - 1 edges that connect all vertices, "
                + "of the products of their weights.");
        for (int n = 2; n <= 6; n++) {
            Checks.same("trees without edges", Checks.loaded("walk " + n + ";").trees(), 0);
            for (int apart = 0; apart < n; apart++) {
                StringBuilder text = new StringBuilder("walk " + n + ";");
                for (int a = 0; a < n; a++) {
                    for (int b = a + 1; b < n; b++) {
                        text.append(a == apart || b == apart ? "" : "edge " + a + " " + b + " 9;");
                    }
                }
                RandomWalks x = Checks.loaded(text.toString());
                Checks.same("trees with one apart", x.trees(), 0);
                x.addEdge(apart, apart == 0 ? 1 : 0, 2);
                long smaller = n == 2 ? 1 : (long) Math.pow(n - 1, n - 3) * (long) Math.pow(9, n - 2);
                Checks.same("trees with one at an edge", x.trees(), 2 * smaller);
            }
        }
        Checks.same("trees of two parts", Checks.loaded("walk 6;edge 0 2 1;edge 2 4 1;edge 4 0 1;edge 1 3 1;edge 3 5 1;").trees(), 0);
        Checks.same("trees of three parts", Checks.loaded("walk 6;edge 0 5 1;edge 1 4 1;edge 2 3 1;").trees(), 0);
        Checks.same("trees of a path", Checks.loaded(UNEVEN).trees(), 6561);
        Checks.same("trees of a circle", Checks.loaded(PATH + "edge 5 0 1;").trees(), 6);
    }

    private static void treesOfAllEdges() {
        Checks.sentence("Returns the number of weighted trees");
        Checks.same("trees of the weight 1", Checks.loaded(Checks.full(1)).trees(), 1296);
        Checks.same("trees of the weight 9", Checks.loaded(Checks.full(9)).trees(), 76527504);
    }

    private static void theBeginningCounts() {
        Checks.sentence("is at an absorbing vertex for the first time (the beginning counts).");
        RandomWalks x = Checks.loaded(PATH + "absorb 0;absorb 3;");
        Checks.fraction("absorption(0, 0)", below -> x.absorption(0, 0, below), 1, 1);
        Checks.fraction("absorption(0, 3)", below -> x.absorption(0, 3, below), 0, 1);
        Checks.fraction("absorption(3, 0)", below -> x.absorption(3, 0, below), 0, 1);
        Checks.fraction("absorptionTime(0)", below -> x.absorptionTime(0, below), 0, 1);
        Checks.fraction("absorptionTime(3)", below -> x.absorptionTime(3, below), 0, 1);
        Checks.fraction("absorptionTime(1)", below -> x.absorptionTime(1, below), 2, 1);
        RandomWalks apart = Checks.loaded("walk 2;absorb 1;");
        Checks.fraction("absorption without edges", below -> apart.absorption(1, 1, below), 1, 1);
        Checks.fraction("absorptionTime without edges", below -> apart.absorptionTime(1, below), 0, 1);
        RandomWalks all = Checks.loaded("walk 2;edge 0 1 1;absorb 0;absorb 1;");
        Checks.fraction("absorption of all", below -> all.absorption(0, 1, below), 0, 1);
        Checks.fraction("absorptionTime of all", below -> all.absorptionTime(1, below), 0, 1);
    }

    private static void theFirstAbsorbingVertexCounts() {
        Checks.sentence("The absorption probability of x at a is the probability that a walk that begins at x is at a "
                + "when it is at an absorbing vertex for the first time");
        RandomWalks x = Checks.loaded(PATH + "absorb 2;absorb 4;absorb 5;");
        Checks.fraction("absorption behind another one", below -> x.absorption(0, 4, below), 0, 1);
        Checks.fraction("absorption at the first one", below -> x.absorption(0, 2, below), 1, 1);
        Checks.fraction("absorption between", below -> x.absorption(3, 4, below), 1, 2);
        Checks.fraction("absorption behind", below -> x.absorption(3, 5, below), 0, 1);
        Checks.fraction("absorptionTime of the end", below -> x.absorptionTime(0, below), 4, 1);
        Checks.fraction("absorptionTime between", below -> x.absorptionTime(3, below), 1, 1);
    }

    private static void absorptionAtOneNotAbsorbing() {
        Checks.sentence("if the latter is not absorbing");
        RandomWalks x = Checks.loaded(PATH + "absorb 0;");
        for (int v = 1; v < 6; v++) {
            int at = v;
            Checks.noArgument("absorption(0, " + v + ")", () -> x.absorption(0, at, false));
            x.setAbsorbing(at, true);
            Checks.same("absorption of one absorbing", x.absorption(at, at, false), 1);
            x.setAbsorbing(at, false);
            Checks.noArgument("absorption of one no longer absorbing", () -> x.absorption(at, at, true));
        }
    }

    private static void noAbsorbingVertexCanBeReached() {
        Checks.sentence("if no absorbing vertex can be reached from the former");
        RandomWalks x = Checks.loaded(PARTS);
        Checks.fraction("absorption(0, 1)", below -> x.absorption(0, 1, below), 1, 1);
        for (int v = 3; v < 6; v++) {
            int from = v;
            Checks.noState("absorption of " + v, () -> x.absorption(from, 1, false));
            Checks.noState("absorptionTime of " + v, () -> x.absorptionTime(from, false));
        }
        x.setAbsorbing(3, true);
        Checks.fraction("absorption at another one", below -> x.absorption(4, 3, below), 1, 1);
        Checks.fraction("absorption at one that cannot be reached", below -> x.absorption(4, 1, below), 0, 1);
        Checks.fraction("absorptionTime", below -> x.absorptionTime(4, below), 1, 1);
        Checks.noState("absorption(5, 3)", () -> x.absorption(5, 3, false));
        x.addEdge(5, 4, 9);
        Checks.fraction("absorption(5, 3)", below -> x.absorption(5, 3, below), 1, 1);
        Checks.fraction("absorptionTime(5)", below -> x.absorptionTime(5, below), 4, 1);
        Checks.noState("absorptionTime of no absorbing vertex", () -> Checks.loaded(PATH).absorptionTime(0, true));
    }

    private static void exceptionsOfAbsorption() {
        Checks.sentence("If several exceptions apply to a call, the one that comes first in the method's throws list is thrown.");
        RandomWalks x = Checks.loaded(PARTS);
        Checks.noIndex("absorption(6, 0)", () -> x.absorption(6, 0, false));
        Checks.noIndex("absorption(5, 6)", () -> x.absorption(5, 6, false));
        Checks.noArgument("absorption(5, 0)", () -> x.absorption(5, 0, false));
        Checks.noArgument("absorption(3, 3)", () -> x.absorption(3, 3, false));
        Checks.noState("absorption(5, 1)", () -> x.absorption(5, 1, false));
    }

    private static void absorptionOnTheLongestWays() {
        Checks.sentence("The absorption time of x is the mean number of steps until then.");
        RandomWalks x = Checks.loaded(PATH + "absorb 0;absorb 5;");
        for (int v = 0; v < 6; v++) {
            int from = v;
            Checks.fraction("absorptionTime(" + v + ")", below -> x.absorptionTime(from, below), v * (5 - v), 1);
            Checks.same("absorption at 0 above", x.absorption(v, 0, false), v == 5 ? 0 : v == 0 ? 1 : 5 - v);
            Checks.same("absorption at 0 below", x.absorption(v, 0, true), v == 5 || v == 0 ? 1 : 5);
            Checks.same("absorption at 5 above", x.absorption(v, 5, false), v == 0 ? 0 : v == 5 ? 1 : v);
        }
        RandomWalks uneven = Checks.loaded(UNEVEN + "absorb 0;");
        Checks.fraction("absorptionTime(5)", below -> uneven.absorptionTime(5, below), 89, 1);
        RandomWalks full = Checks.loaded(Checks.full(9) + "absorb 1;absorb 2;absorb 3;absorb 4;absorb 5;");
        Checks.fraction("absorption of all edges", below -> full.absorption(0, 4, below), 1, 5);
        Checks.fraction("absorptionTime of all edges", below -> full.absorptionTime(0, below), 1, 1);
    }
}

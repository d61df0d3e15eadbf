/**
 * The conventions, the graph and its costs (promises 5 to 10 and 16), a sentence of the document at a time: each
 * that names a boundary is tested on both of its sides.
 */
final class GraphBoundsTest {
    public static void main(String[] args) {
        divisionTruncates();
        limitedNumbers();
        fractionsInLowestTerms();
        nothingIs0Over1();
        setsOfVertices();
        nothingBeforeTheFirstLoad();
        sizeIs0BeforeTheFirstLoad();
        verticesAreNumberedFrom0();
        atMost15Edges();
        noTwoEdgesOfTheSameEnds();
        partsOfAnEdge();
        degrees();
        stepsByWeights();
        stepWithoutEdges();
        reachedByAWay();
        costsAreLimited();
        divisionBy0Gives0();
        operationsFromTheLeft();
        operationsAreLimited();
        weightFromAndTo();
        costWithoutAStatement();
        absorbingVertices();
        Checks.end("GraphBoundsTest");
    }

    private static void divisionTruncates() {
        Checks.sentence("Integer division truncates toward zero.");
        Checks.cost("7/2", 3, 3);
        Checks.cost("(0-7)/2+10", 7, 7);
        Checks.cost("7/(0-2)+10", 7, 7);
        Checks.cost("(0-7)/(0-2)", 3, 3);
        Checks.cost("(0-1)/2+10", 10, 10);
        Checks.cost("1/(0-2)+10", 10, 10);
        Checks.cost("(0-8)/2+10", 6, 6);
        Checks.cost("(0-9999)/5000+10", 9, 9);
    }

    private static void limitedNumbers() {
        Checks.sentence("A number that is limited to a range becomes the nearer bound if it is outside of it.");
        Checks.cost("0-9999*9999", 0, 0);
        Checks.cost("0-1", 0, 0);
        Checks.cost("0-0", 0, 0);
        Checks.cost("99+0", 99, 99);
        Checks.cost("99+1", 99, 99);
        Checks.cost("9999*9999", 99, 99);
    }

    private static void fractionsInLowestTerms() {
        Checks.sentence("A fraction is told by two numbers: its numerator and its denominator, in lowest terms, "
                + "the denominator greater than 0");
        RandomWalks x = Checks.loaded("walk 4;edge 0 1 6;edge 1 2 4;edge 1 3 2;absorb 0;absorb 2;join 2 3;cost 2;");
        Checks.fraction("transition(1, 0)", below -> x.transition(1, 0, below), 1, 2);
        Checks.fraction("transition(1, 2)", below -> x.transition(1, 2, below), 1, 3);
        Checks.fraction("transition(1, 3)", below -> x.transition(1, 3, below), 1, 6);
        Checks.fraction("transition(0, 1)", below -> x.transition(0, 1, below), 1, 1);
        Checks.fraction("hittingTime(1, 0)", below -> x.hittingTime(1, 0, below), 3, 1);
        Checks.fraction("hittingCost(1, 0)", below -> x.hittingCost(1, 0, below), 6, 1);
        Checks.fraction("commuteTime(0, 1)", below -> x.commuteTime(0, 1, below), 4, 1);
        Checks.fraction("resistance(0, 1)", below -> x.resistance(0, 1, below), 1, 6);
        Checks.fraction("resistance(0, 2)", below -> x.resistance(0, 2, below), 5, 12);
        Checks.fraction("absorption(1, 0)", below -> x.absorption(1, 0, below), 3, 5);
        Checks.fraction("absorption(3, 2)", below -> x.absorption(3, 2, below), 2, 5);
        Checks.fraction("absorptionTime(1)", below -> x.absorptionTime(1, below), 7, 5);
        Checks.fraction("lumped(1, 2)", below -> x.lumped(1, 2, below), 1, 2);
        Checks.fraction("lumpedTime(1, 2)", below -> x.lumpedTime(1, 2, below), 3, 1);
    }

    private static void nothingIs0Over1() {
        Checks.sentence("(0 is 0 / 1)");
        RandomWalks x = Checks.loaded("walk 4;edge 0 1 6;edge 1 2 4;edge 1 3 2;absorb 0;absorb 2;join 2 3;cost 0;");
        Checks.fraction("transition(0, 2)", below -> x.transition(0, 2, below), 0, 1);
        Checks.fraction("transition(1, 1)", below -> x.transition(1, 1, below), 0, 1);
        Checks.fraction("hittingTime(1, 1)", below -> x.hittingTime(1, 1, below), 0, 1);
        Checks.fraction("hittingCost(1, 0)", below -> x.hittingCost(1, 0, below), 0, 1);
        Checks.fraction("hittingCost(3, 2)", below -> x.hittingCost(3, 2, below), 0, 1);
        Checks.fraction("hittingCost(2, 2)", below -> x.hittingCost(2, 2, below), 0, 1);
        Checks.fraction("commuteTime(1, 1)", below -> x.commuteTime(1, 1, below), 0, 1);
        Checks.fraction("resistance(1, 1)", below -> x.resistance(1, 1, below), 0, 1);
        Checks.fraction("absorption(0, 2)", below -> x.absorption(0, 2, below), 0, 1);
        Checks.fraction("absorptionTime(0)", below -> x.absorptionTime(0, below), 0, 1);
        Checks.fraction("lumped(0, 2)", below -> x.lumped(0, 2, below), 0, 1);
        Checks.fraction("lumped(1, 1)", below -> x.lumped(1, 1, below), 0, 1);
        Checks.fraction("lumpedTime(2, 2)", below -> x.lumpedTime(2, 2, below), 0, 1);
    }

    private static void setsOfVertices() {
        Checks.sentence("A set of vertices is a number: the sum of 2^k over its vertices k.");
        RandomWalks x = Checks.loaded("walk 6;");
        for (int v = 0; v < 6; v++) {
            int one = 1 << v;
            Checks.same("reachable", x.reachable(v), one);
            Checks.same("setAbsorbing", x.setAbsorbing(v, true), one);
            Checks.same("absorbing", x.absorbing(), one);
            Checks.same("setAbsorbing of none", x.setAbsorbing(v, false), 0);
            Checks.same("walk", x.walk(v, 3, 1, 1), one);
        }
        RandomWalks full = Checks.loaded(Checks.full(9));
        Checks.same("reachable", full.reachable(3), 63);
        Checks.same("walk", full.walk(3, 1000, 1, 1), 63);
    }

    private static void nothingBeforeTheFirstLoad() {
        Checks.sentence("Before the first successful load there are no vertices and no edges.");
        RandomWalks x = new RandomWalks();
        checkNothing(x);
        x.append(0, 0, 0, 0, 0);
        checkNothing(x);
        x.load(0);
        checkNothing(x);
        Checks.same("load of an error", Checks.load(x, "walk 2;edge 0 1 1;$"), RandomWalks.SYNTAX_ERROR);
        checkNothing(x);
        x.refine();
        checkNothing(x);
        RandomWalks undone = Checks.loaded("walk 6;edge 4 5 1;absorb 5;join 1 2;");
        Checks.same("undo", undone.undo(), 0);
        checkNothing(undone);
    }

    private static void checkNothing(RandomWalks x) {
        Checks.same("size", x.size(), 0);
        Checks.same("edgeCount", x.edgeCount(), 0);
        Checks.same("trees", x.trees(), 0);
        Checks.same("absorbing", x.absorbing(), 0);
        Checks.same("blockCount", x.blockCount(), 0);
        Checks.yes("isLumpable", x::isLumpable);
        Checks.same("parted", x.parted(), -1);
        Checks.same("checksum", x.checksum(), 0);
        Checks.noIndex("edge", () -> x.edge(0, 0));
        Checks.noIndex("lumped", () -> x.lumped(0, 0, false));
        Checks.noIndex("lumpedTime", () -> x.lumpedTime(0, 0, false));
        Checks.noIndex("setWeight", () -> x.setWeight(0, 1));
        Checks.noIndex("removeEdge", () -> x.removeEdge(0));
        checkVertices(x, 0);
    }

    private static void sizeIs0BeforeTheFirstLoad() {
        Checks.sentence("Returns n; 0 before the first successful load.");
        RandomWalks x = new RandomWalks();
        Checks.same("size", x.size(), 0);
        Checks.load(x, "walk 3;edge 0 1 1");
        Checks.same("size after an error", x.size(), 0);
        Checks.load(x, "walk 6;");
        Checks.same("size", x.size(), 6);
        Checks.load(x, "walk 2;");
        Checks.same("size", x.size(), 2);
        Checks.load(x, "walk 7;");
        Checks.same("size after an error", x.size(), 2);
    }

    private static void verticesAreNumberedFrom0() {
        Checks.sentence("There are n vertices (2 to 6), numbered from 0");
        for (int n = 2; n <= 6; n++) {
            RandomWalks x = Checks.loaded("walk " + n + ";absorb 0;");
            checkVertices(x, n);
            for (int v = 0; v < n; v++) {
                Checks.same("degree", x.degree(v), 0);
                Checks.same("reachable", x.reachable(v), 1 << v);
                Checks.same("transition", x.transition(v, v, false), 1);
                Checks.same("hittingTime", x.hittingTime(v, v, false), 0);
                Checks.same("blockOf", x.blockOf(v), v);
                Checks.same("after", x.after(v, v, 1), 1.0f);
                Checks.same("walk", x.walk(v, 1, 1, 0), v);
            }
        }
    }

    /** The vertices from 0 to below n exist, and no others, for each call that is told one. */
    private static void checkVertices(RandomWalks x, int n) {
        Checks.noIndexOutside("degree", n, x::degree);
        Checks.noIndexOutside("reachable", n, x::reachable);
        Checks.noIndexOutside("transition from", n, v -> x.transition(v, 0, true));
        Checks.noIndexOutside("transition to", n, v -> x.transition(0, v, true));
        Checks.noIndexOutside("hittingTime from", n, v -> x.hittingTime(v, 0, true));
        Checks.noIndexOutside("hittingTime to", n, v -> x.hittingTime(0, v, true));
        Checks.noIndexOutside("hittingCost from", n, v -> x.hittingCost(v, 0, true));
        Checks.noIndexOutside("hittingCost to", n, v -> x.hittingCost(0, v, true));
        Checks.noIndexOutside("commuteTime a", n, v -> x.commuteTime(v, 0, true));
        Checks.noIndexOutside("commuteTime b", n, v -> x.commuteTime(0, v, true));
        Checks.noIndexOutside("resistance a", n, v -> x.resistance(v, 0, true));
        Checks.noIndexOutside("resistance b", n, v -> x.resistance(0, v, true));
        Checks.noIndexOutside("absorption from", n, v -> x.absorption(v, 0, true));
        Checks.noIndexOutside("absorption at", n, v -> x.absorption(0, v, true));
        Checks.noIndexOutside("absorptionTime", n, v -> x.absorptionTime(v, true));
        Checks.noIndexOutside("blockOf", n, x::blockOf);
        Checks.noIndexOutside("after from", n, v -> (long) x.after(v, 0, 1));
        Checks.noIndexOutside("after to", n, v -> (long) x.after(0, v, 1));
        Checks.noIndexOutside("walk", n, v -> x.walk(v, 1, 1, 0));
        Checks.noIndexOutside("addEdge a", n, v -> x.addEdge(v, 0, 1));
        Checks.noIndexOutside("addEdge b", n, v -> x.addEdge(0, v, 1));
        Checks.noIndexOutside("setAbsorbing", n, v -> x.setAbsorbing(v, true));
        Checks.noIndexOutside("join a", n, v -> x.join(v, 0));
        Checks.noIndexOutside("join b", n, v -> x.join(0, v));
        Checks.noIndexOutside("separate", n, x::separate);
    }

    private static void atMost15Edges() {
        Checks.sentence("and at most 15 edges, with indexes from 0.");
        RandomWalks x = Checks.loaded("walk 6;");
        for (int k = 0; k < 15; k++) {
            Checks.same("edgeCount", x.edgeCount(), k);
            Checks.noIndexOutside("edge of " + k, k, e -> x.edge(e, 0));
            Checks.noIndexOutside("setWeight of " + k, k, e -> x.setWeight(e, 1));
            Checks.noIndexOutside("removeEdge of " + k, k, x::removeEdge);
            int[] ends = missingEdge(x);
            Checks.same("addEdge", x.addEdge(ends[0], ends[1], 1 + k % 9), k);
            Checks.same("weight", x.edge(k, 2), 1 + k % 9);
        }
        Checks.same("edgeCount", x.edgeCount(), 15);
        Checks.noIndexOutside("edge of 15", 15, e -> x.edge(e, 0));
        for (int a = 0; a < 6; a++) {
            for (int b = 0; b < 6; b++) {
                int low = a;
                int high = b;
                Checks.throwsJust(a == b ? IllegalArgumentException.class : IllegalStateException.class,
                        "addEdge to 15", () -> x.addEdge(low, high, 1));
            }
        }
        Checks.same("edgeCount", x.edgeCount(), 15);
    }

    /** The last two vertices without an edge between them, the larger one first. */
    private static int[] missingEdge(RandomWalks x) {
        int[] ends = {0, 0};
        for (int a = 0; a < 6; a++) {
            for (int b = 0; b < a; b++) {
                if (x.transition(a, b, false) == 0) {
                    ends = new int[] {a, b};
                }
            }
        }
        return ends;
    }

    private static void noTwoEdgesOfTheSameEnds() {
        Checks.sentence("no two edges have the same ends.");
        RandomWalks x = Checks.loaded("walk 3;edge 2 1 4;");
        Checks.noState("addEdge", () -> x.addEdge(1, 2, 4));
        Checks.noState("addEdge", () -> x.addEdge(2, 1, 5));
        Checks.same("addEdge of one end", x.addEdge(2, 0, 4), 1);
        Checks.same("degree(1)", x.degree(1), 4);
        x.removeEdge(0);
        Checks.same("addEdge after it is removed", x.addEdge(1, 2, 9), 1);
        Checks.error("walk 3;edge 2 1 4;edge 1 2 5;", RandomWalks.DUPLICATE, 25);
    }

    private static void partsOfAnEdge() {
        Checks.sentence("0 its end with the smaller number, 1 its other end, 2 its weight, "
                + "3 the cost of the step from the former to the latter, 4 the cost of the step back");
        RandomWalks x = Checks.loaded("walk 6;edge 5 0 9;edge 3 4 1;cost weight*10+from-to;");
        int[] first = {0, 5, 9, 85, 95};
        int[] second = {3, 4, 1, 9, 11};
        for (int what = 0; what <= 4; what++) {
            Checks.same("edge(0, " + what + ")", x.edge(0, what), first[what]);
            Checks.same("edge(1, " + what + ")", x.edge(1, what), second[what]);
        }
        Checks.noArgumentOutside("what", 0, 4, what -> x.edge(0, what));
        Checks.noIndexOutside("edge", 2, e -> x.edge(e, 4));
    }

    private static void degrees() {
        Checks.sentence("The degree of a vertex is the sum of the weights of its edges.");
        Checks.same("degree without edges", Checks.loaded("walk 2;").degree(1), 0);
        RandomWalks x = Checks.loaded(Checks.full(9));
        for (int v = 0; v < 6; v++) {
            Checks.same("degree of all edges", x.degree(v), 45);
        }
        x.removeEdge(0);
        x.setWeight(0, 1);
        Checks.same("degree(0)", x.degree(0), 28);
        Checks.same("degree(1)", x.degree(1), 36);
        Checks.same("degree(2)", x.degree(2), 37);
        x.addEdge(1, 0, 3);
        Checks.same("degree(0)", x.degree(0), 31);
        Checks.same("degree(1)", x.degree(1), 39);
    }

    private static void stepsByWeights() {
        Checks.sentence("From a vertex it goes along one of its edges to the other end; the probability of this is "
                + "the weight of the edge divided by the degree of the vertex.");
        RandomWalks x = Checks.loaded("walk 6;edge 5 0 1;edge 1 5 9;edge 4 5 2;edge 5 3 6;");
        int[] above = {1, 1, 0, 1, 1, 0};
        int[] below = {18, 2, 1, 3, 9, 1};
        for (int v = 0; v < 6; v++) {
            int to = v;
            Checks.fraction("transition(5, " + v + ")", isBelow -> x.transition(5, to, isBelow), above[v], below[v]);
        }
        Checks.fraction("transition(0, 5)", isBelow -> x.transition(0, 5, isBelow), 1, 1);
        Checks.fraction("transition(0, 0)", isBelow -> x.transition(0, 0, isBelow), 0, 1);
        x.setAbsorbing(5, true);
        Checks.fraction("transition from an absorbing vertex", isBelow -> x.transition(5, 1, isBelow), 1, 2);
    }

    private static void stepWithoutEdges() {
        Checks.sentence("If the vertex has no edges, the step leads to itself with the probability 1.");
        RandomWalks x = Checks.loaded("walk 3;edge 0 1 1;");
        Checks.fraction("transition(2, 2)", below -> x.transition(2, 2, below), 1, 1);
        Checks.fraction("transition(2, 0)", below -> x.transition(2, 0, below), 0, 1);
        Checks.fraction("transition(0, 0)", below -> x.transition(0, 0, below), 0, 1);
        Checks.fraction("transition(0, 2)", below -> x.transition(0, 2, below), 0, 1);
        x.removeEdge(0);
        Checks.fraction("transition(0, 0) without its edge", below -> x.transition(0, 0, below), 1, 1);
        Checks.fraction("transition(0, 1) without its edge", below -> x.transition(0, 1, below), 0, 1);
        Checks.same("after", x.after(0, 0, 100), 1.0f);
        Checks.same("after", x.after(0, 1, 100), 0.0f);
        Checks.same("walk", x.walk(0, 1000, 1, 0), 0);
    }

    private static void reachedByAWay() {
        Checks.sentence("A vertex can be reached from another one if a way of edges leads there; "
                + "each vertex can be reached from itself.");
        RandomWalks x = Checks.loaded("walk 6;edge 3 2 1;edge 5 0 1;edge 1 3 1;edge 0 4 1;edge 4 1 1;");
        for (int v = 0; v < 6; v++) {
            Checks.same("reachable on a way of 5 edges", x.reachable(v), 63);
            Checks.same("hittingTime below", x.hittingTime(v, v, true), 1);
        }
        x.removeEdge(4);
        int[] due = {0b110001, 0b001110, 0b001110, 0b001110, 0b110001, 0b110001};
        for (int v = 0; v < 6; v++) {
            Checks.same("reachable in two parts", x.reachable(v), due[v]);
        }
        x.setAbsorbing(0, true);
        Checks.same("reachable past an absorbing vertex", x.reachable(5), 0b110001);
    }

    private static void costsAreLimited() {
        Checks.sentence("The cost of a step from one vertex to another one, along an edge, is the value of the cost "
                + "expression, limited to the range 0 to 99.");
        Checks.cost("5-6", 0, 0);
        Checks.cost("6-6", 0, 0);
        Checks.cost("7-6", 1, 1);
        Checks.cost("98", 98, 98);
        Checks.cost("99", 99, 99);
        Checks.cost("100", 99, 99);
        Checks.cost("9999", 99, 99);
        Checks.cost("99+to", 99, 99);
        Checks.cost("98+to", 99, 98);
        Checks.cost("from-1", 0, 0);
        // What is added up is limited once, at the end.
        Checks.cost("150-60", 90, 90);
        Checks.cost("10-20+15", 5, 5);
        RandomWalks x = Checks.loaded("walk 2;edge 0 1 5;cost 100;");
        Checks.fraction("hittingCost", below -> x.hittingCost(0, 1, below), 99, 1);
        Checks.same("walk", x.walk(0, 2, 1, 2), 198);
    }

    private static void divisionBy0Gives0() {
        Checks.sentence("Division by 0 gives 0.");
        Checks.cost("7/0", 0, 0);
        Checks.cost("0/0", 0, 0);
        Checks.cost("8+7/0", 8, 8);
        Checks.cost("8+(0-7)/0", 8, 8);
        Checks.cost("8+7/0*5", 8, 8);
        Checks.cost("7/(3-3)+8", 8, 8);
        Checks.cost("40/from+1", 1, 41);
        Checks.cost("40/to/to+1", 41, 1);
        Checks.cost("8+9999*9999/0", 8, 8);
    }

    private static void operationsFromTheLeft() {
        Checks.sentence("The operations of one sum or term are made from the left to the right");
        Checks.cost("50-20-10", 20, 20);
        Checks.cost("50-20+10", 40, 40);
        Checks.cost("90/9/5", 2, 2);
        Checks.cost("7/2*2", 6, 6);
        Checks.cost("2*7/2", 7, 7);
        Checks.cost("3/4*8", 0, 0);
        Checks.cost("2+3*4-6/2", 11, 11);
        Checks.cost("2*3+4*5", 26, 26);
        Checks.cost("50-2*3*4-1", 25, 25);
        Checks.cost("90/(9/5)", 90, 90);
        Checks.cost("50-(20-10)", 40, 40);
    }

    /** Where a limit is passed, the way back down tells it. */
    private static void operationsAreLimited() {
        Checks.sentence("the result of each one is limited to the range -1000000 to 1000000.");
        Checks.cost("9999*100+99-9999*100-50", 49, 49);
        Checks.cost("9999*100+100-9999*100-50", 50, 50);
        Checks.cost("9999*100+101-9999*100-50", 50, 50);
        Checks.cost("0-9999*100-99+9999*100+149", 50, 50);
        Checks.cost("0-9999*100-100+9999*100+149", 49, 49);
        Checks.cost("0-9999*100-101+9999*100+149", 49, 49);
        Checks.cost("1000*1000-9999*100-50", 50, 50);
        Checks.cost("1000*1001-9999*100-50", 50, 50);
        Checks.cost("(0-1000)*1000+9999*100+150", 50, 50);
        Checks.cost("(0-1000)*1001+9999*100+150", 50, 50);
        Checks.cost("0-9999-9999*100+9999*100+149", 49, 49);
        // Products that an int does not hold.
        Checks.cost("(9999*9999)*(9999*9999)-9999*100-50", 50, 50);
        Checks.cost("(0-9999*9999)*(9999*9999)+9999*100+150", 50, 50);
        Checks.cost("(0-9999*9999)*(0-9999*9999)-9999*100-50", 50, 50);
        Checks.cost("9999*9999+9999*9999-9999*100-50", 50, 50);
        Checks.cost("9999*9999/9999", 99, 99);
        Checks.cost("9999*9999/9999-90", 10, 10);
        Checks.cost("9999*9999/9999*9999-9999*100+39", 39, 39);
    }

    private static void weightFromAndTo() {
        Checks.sentence("In the expression, weight is the weight of the edge, from the vertex that is left, "
                + "and to the one that is reached.");
        RandomWalks x = Checks.loaded("walk 6;edge 4 3 8;edge 0 5 1;cost weight*6+from*5-to*3;");
        Checks.same("cost", x.edge(0, 3), 48 + 15 - 12);
        Checks.same("cost back", x.edge(0, 4), 48 + 20 - 9);
        Checks.same("cost", x.edge(1, 3), 0);
        Checks.same("cost back", x.edge(1, 4), 6 + 25);
        x.setWeight(1, 9);
        Checks.same("cost of another weight", x.edge(1, 3), 54 - 15);
        x.addEdge(2, 1, 2);
        Checks.same("cost of another edge", x.edge(2, 3), 12 + 5 - 6);
    }

    private static void costWithoutAStatement() {
        Checks.sentence("Without a cost statement the cost is 1.");
        RandomWalks x = Checks.loaded("walk 3;edge 0 1 9;cost 7;");
        Checks.same("cost", x.edge(0, 3), 7);
        Checks.load(x, "walk 3;edge 0 1 9;");
        Checks.same("cost", x.edge(0, 3), 1);
        Checks.same("cost back", x.edge(0, 4), 1);
        x.addEdge(1, 2, 9);
        Checks.same("cost of another edge", x.edge(1, 4), 1);
        Checks.fraction("hittingCost", below -> x.hittingCost(0, 2, below), 4, 1);
        Checks.same("walk", x.walk(0, 1000, 1, 2), 1000);
        x.undo();
        x.undo();
        Checks.same("cost of the text before", x.edge(0, 3), 7);
    }

    private static void absorbingVertices() {
        Checks.sentence("Returns the set of the absorbing vertices.");
        RandomWalks x = Checks.loaded("walk 6;");
        Checks.same("none", x.absorbing(), 0);
        Checks.load(x, "walk 6;absorb 0;absorb 5;");
        Checks.same("the first and the last", x.absorbing(), 33);
        for (int v = 0; v < 6; v++) {
            x.setAbsorbing(v, true);
        }
        Checks.same("all", x.absorbing(), 63);
    }
}

/** Promises 6 to 10: edgeCount, edge, degree, reachable, transition. */
final class GraphTest {
    public static void main(String[] args) {
        promise6EdgeCount();
        promise7Edge();
        promise8Degree();
        promise9Reachable();
        promise10Transition();
        Checks.end("GraphTest");
    }

    private static void promise6EdgeCount() {
        RandomWalks x = Checks.loaded("walk 5;edge 0 1 1;edge 4 2 1;edge 3 1 1;");
        Checks.same("edgeCount", x.edgeCount(), 3);
        x.removeEdge(0);
        Checks.same("edgeCount", x.edgeCount(), 2);
        x.addEdge(0, 1, 1);
        x.addEdge(0, 2, 1);
        Checks.same("edgeCount", x.edgeCount(), 4);
    }

    private static void promise7Edge() {
        RandomWalks x = Checks.loaded("walk 5;edge 4 2 3;edge 0 1 9;cost weight*10+from*3+to;");
        Checks.same("low", x.edge(0, 0), 2);
        Checks.same("high", x.edge(0, 1), 4);
        Checks.same("weight", x.edge(0, 2), 3);
        Checks.same("cost", x.edge(0, 3), 40);
        Checks.same("cost back", x.edge(0, 4), 44);
        Checks.same("low", x.edge(1, 0), 0);
        Checks.same("cost", x.edge(1, 3), 91);
        Checks.same("cost back", x.edge(1, 4), 93);
        x.setWeight(1, 2);
        Checks.same("cost with another weight", x.edge(1, 4), 23);
        Checks.noIndex("edge(2, 0)", () -> x.edge(2, 0));
        Checks.noIndex("edge(-1, 0)", () -> x.edge(-1, 0));
        Checks.noIndex("edge(2, 9)", () -> x.edge(2, 9));
        Checks.noArgument("edge(0, 5)", () -> x.edge(0, 5));
        Checks.noArgument("edge(0, -1)", () -> x.edge(0, -1));
        Checks.same("default cost", Checks.loaded("walk 2;edge 0 1 5;").edge(0, 4), 1);
    }

    private static void promise8Degree() {
        RandomWalks x = Checks.loaded("walk 5;edge 4 2 3;edge 2 1 9;edge 0 2 1;");
        Checks.same("degree(0)", x.degree(0), 1);
        Checks.same("degree(2)", x.degree(2), 13);
        Checks.same("degree(3)", x.degree(3), 0);
        Checks.same("degree(4)", x.degree(4), 3);
        Checks.noIndex("degree(5)", () -> x.degree(5));
        Checks.noIndex("degree(-1)", () -> x.degree(-1));
    }

    private static void promise9Reachable() {
        RandomWalks x = Checks.loaded("walk 6;edge 5 0 1;edge 0 4 1;edge 4 1 1;edge 1 3 1;");
        Checks.same("reachable(5)", x.reachable(5), 0b111011);
        Checks.same("reachable(3)", x.reachable(3), 0b111011);
        Checks.same("reachable(2)", x.reachable(2), 0b000100);
        x.addEdge(3, 2, 1);
        Checks.same("reachable(5)", x.reachable(5), 63);
        Checks.same("reachable(2)", x.reachable(2), 63);
        x.removeEdge(1);
        Checks.same("reachable(5)", x.reachable(5), 0b100001);
        Checks.same("reachable(4)", x.reachable(4), 0b011110);
        Checks.noIndex("reachable(6)", () -> x.reachable(6));
        Checks.noIndex("reachable(-1)", () -> x.reachable(-1));
    }

    private static void promise10Transition() {
        RandomWalks x = Checks.loaded("walk 4;edge 0 1 2;edge 1 2 4;absorb 1;");
        Checks.fraction("transition(1, 0)", below -> x.transition(1, 0, below), 1, 3);
        Checks.fraction("transition(1, 2)", below -> x.transition(1, 2, below), 2, 3);
        Checks.fraction("transition(0, 1)", below -> x.transition(0, 1, below), 1, 1);
        Checks.fraction("transition(0, 2)", below -> x.transition(0, 2, below), 0, 1);
        Checks.fraction("transition(1, 1)", below -> x.transition(1, 1, below), 0, 1);
        Checks.fraction("transition(3, 3)", below -> x.transition(3, 3, below), 1, 1);
        Checks.fraction("transition(3, 0)", below -> x.transition(3, 0, below), 0, 1);
        Checks.noIndex("transition(4, 0)", () -> x.transition(4, 0, false));
        Checks.noIndex("transition(0, 4)", () -> x.transition(0, 4, false));
        Checks.noIndex("transition(-1, 0)", () -> x.transition(-1, 0, true));
        Checks.noIndex("transition(0, -1)", () -> x.transition(0, -1, true));
    }
}

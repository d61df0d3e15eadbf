/** Promises 27 to 30, 34 and 35: setWeight, addEdge, removeEdge, setAbsorbing, undo, checksum. */
final class ChangesTest {
    private static final String TEXT = "walk 4;edge 0 1 1;edge 1 2 2;edge 2 3 3;absorb 3;join 0 2;cost to*9;";

    public static void main(String[] args) {
        promise27SetWeight();
        promise28AddEdge();
        promise29RemoveEdge();
        promise30SetAbsorbing();
        promise34Undo();
        promise34UndoEight();
        promise34UndoAfterLoad();
        promise34ThrowsAreNoChanges();
        promise35Checksum();
        Checks.end("ChangesTest");
    }

    private static void promise27SetWeight() {
        RandomWalks x = Checks.loaded(TEXT);
        Checks.same("setWeight(1, 9)", x.setWeight(1, 9), 2);
        Checks.same("setWeight(1, 1)", x.setWeight(1, 1), 9);
        Checks.same("weight", x.edge(1, 2), 1);
        Checks.same("degree(2)", x.degree(2), 4);
        Checks.noIndex("setWeight(3, 0)", () -> x.setWeight(3, 0));
        Checks.noIndex("setWeight(-1, 1)", () -> x.setWeight(-1, 1));
        Checks.noArgument("setWeight(0, 0)", () -> x.setWeight(0, 0));
        Checks.noArgument("setWeight(0, 10)", () -> x.setWeight(0, 10));
    }

    private static void promise28AddEdge() {
        RandomWalks x = Checks.loaded(TEXT);
        Checks.same("addEdge(3, 0, 5)", x.addEdge(3, 0, 5), 3);
        Checks.same("low", x.edge(3, 0), 0);
        Checks.same("high", x.edge(3, 1), 3);
        Checks.same("weight", x.edge(3, 2), 5);
        Checks.same("cost", x.edge(3, 3), 27);
        Checks.same("degree(0)", x.degree(0), 6);
        Checks.noIndex("addEdge(4, 4, 0)", () -> x.addEdge(4, 4, 0));
        Checks.noIndex("addEdge(0, -1, 1)", () -> x.addEdge(0, -1, 1));
        Checks.noArgument("addEdge(2, 2, 1)", () -> x.addEdge(2, 2, 1));
        Checks.noArgument("addEdge(0, 1, 0)", () -> x.addEdge(0, 1, 0));
        Checks.noArgument("addEdge(0, 2, 10)", () -> x.addEdge(0, 2, 10));
        Checks.noState("addEdge(1, 0, 9)", () -> x.addEdge(1, 0, 9));
        Checks.noState("addEdge(0, 1, 9)", () -> x.addEdge(0, 1, 9));
    }

    private static void promise29RemoveEdge() {
        RandomWalks x = Checks.loaded(TEXT);
        Checks.noIndex("removeEdge(3)", () -> x.removeEdge(3));
        Checks.noIndex("removeEdge(-1)", () -> x.removeEdge(-1));
        Checks.same("removeEdge(0)", x.removeEdge(0), 2);
        Checks.same("low of 0", x.edge(0, 0), 1);
        Checks.same("weight of 1", x.edge(1, 2), 3);
        Checks.same("degree(0)", x.degree(0), 0);
        Checks.same("removeEdge(1)", x.removeEdge(1), 1);
        Checks.same("removeEdge(0)", x.removeEdge(0), 0);
        Checks.noIndex("removeEdge(0)", () -> x.removeEdge(0));
        Checks.same("addEdge of a removed one", x.addEdge(1, 0, 4), 0);
    }

    private static void promise30SetAbsorbing() {
        RandomWalks x = Checks.loaded(TEXT);
        Checks.same("setAbsorbing(0, true)", x.setAbsorbing(0, true), 9);
        Checks.same("setAbsorbing(0, true) again", x.setAbsorbing(0, true), 9);
        Checks.same("setAbsorbing(3, false)", x.setAbsorbing(3, false), 1);
        Checks.same("setAbsorbing(3, false) again", x.setAbsorbing(3, false), 1);
        Checks.noIndex("setAbsorbing(4, true)", () -> x.setAbsorbing(4, true));
        Checks.noIndex("setAbsorbing(-1, false)", () -> x.setAbsorbing(-1, false));
    }

    private static void promise34Undo() {
        RandomWalks x = Checks.loaded(TEXT);
        long first = x.checksum();
        x.setWeight(0, 8);
        x.addEdge(0, 3, 1);
        x.removeEdge(1);
        x.setAbsorbing(1, true);
        x.join(1, 3);
        x.separate(2);
        long sum = x.checksum();
        x.refine();
        Checks.same("undo of refine", x.undo(), 7);
        Checks.same("checksum", x.checksum(), sum);
        Checks.same("undo of separate", x.undo(), 6);
        Checks.same("blockOf(2)", x.blockOf(2), 0);
        Checks.same("undo of join", x.undo(), 5);
        Checks.same("blockCount", x.blockCount(), 3);
        Checks.same("undo of setAbsorbing", x.undo(), 4);
        Checks.same("absorbing", x.absorbing(), 8);
        Checks.same("undo of removeEdge", x.undo(), 3);
        Checks.same("low of 1", x.edge(1, 0), 1);
        Checks.same("undo of addEdge", x.undo(), 2);
        Checks.same("edgeCount", x.edgeCount(), 3);
        Checks.same("undo of setWeight", x.undo(), 1);
        Checks.same("checksum", x.checksum(), first);
        Checks.same("undo of load", x.undo(), 0);
        Checks.same("size", x.size(), 0);
        Checks.same("checksum", x.checksum(), 0);
        Checks.same("undo of nothing", x.undo(), -1);
    }

    private static void promise34UndoEight() {
        RandomWalks x = Checks.loaded("walk 2;edge 0 1 1;");
        for (int weight = 2; weight <= 9; weight++) {
            x.setWeight(0, weight);
        }
        x.setWeight(0, 9);
        for (int k = 7; k >= 5; k--) {
            Checks.same("undo", x.undo(), k);
        }
        Checks.same("weight", x.edge(0, 2), 7);
        x.setAbsorbing(0, false);
        Checks.same("undo of a change of nothing", x.undo(), 5);
        for (int k = 4; k >= 0; k--) {
            Checks.same("undo", x.undo(), k);
        }
        Checks.same("weight", x.edge(0, 2), 2);
        Checks.same("undo of nothing", x.undo(), -1);
        Checks.same("weight", x.edge(0, 2), 2);
        x.setWeight(0, 5);
        Checks.same("undo", x.undo(), 0);
        Checks.same("weight", x.edge(0, 2), 2);
    }

    private static void promise34UndoAfterLoad() {
        RandomWalks x = Checks.loaded(TEXT);
        Checks.load(x, "walk 6;edge 4 5 9;cost 5;");
        Checks.load(x, "walk 6;edge 4 5 9;cost");
        Checks.append(x, "walk 3;edge 1 2 1;");
        Checks.same("undo", x.undo(), 1);
        Checks.same("size", x.size(), 4);
        Checks.same("cost", x.edge(1, 3), 18);
        Checks.same("errorOffset", x.errorOffset(), 22);
        Checks.same("load of what the buffer held", x.load(18), 1);
        Checks.same("cost", x.edge(0, 3), 1);
        Checks.same("undo", x.undo(), 1);
        Checks.same("cost", x.edge(1, 3), 18);
    }

    private static void promise34ThrowsAreNoChanges() {
        RandomWalks x = Checks.loaded(TEXT);
        long sum = x.checksum();
        Checks.noIndex("setWeight", () -> x.setWeight(9, 1));
        Checks.noArgument("setWeight", () -> x.setWeight(0, 0));
        Checks.noIndex("addEdge", () -> x.addEdge(0, 4, 1));
        Checks.noArgument("addEdge", () -> x.addEdge(0, 3, 0));
        Checks.noState("addEdge", () -> x.addEdge(0, 1, 1));
        Checks.noIndex("removeEdge", () -> x.removeEdge(5));
        Checks.noIndex("setAbsorbing", () -> x.setAbsorbing(5, true));
        Checks.noIndex("join", () -> x.join(0, 5));
        Checks.noIndex("separate", () -> x.separate(5));
        Checks.noArgument("load", () -> x.load(1));
        Checks.same("checksum", x.checksum(), sum);
        Checks.same("undo", x.undo(), 0);
    }

    private static void promise35Checksum() {
        RandomWalks x = Checks.loaded("walk 3;edge 2 0 4;edge 1 0 3;absorb 1;join 1 2;");
        long[] told = {3, 2, 0, 2, 4, 0, 1, 3, 0, 1, 1, 12};
        long due = 0;
        for (long n : told) {
            due = 31 * due + n;
        }
        Checks.same("checksum", x.checksum(), due);
        Checks.same("checksum of nothing", new RandomWalks().checksum(), 0);
        RandomWalks two = Checks.loaded("walk 2;");
        Checks.same("checksum of two vertices", two.checksum(), (2L * 31 * 31 * 31 + 1) * 31);
    }
}

/** Promises 19 to 24 and 31 to 33: the blocks, whether they can be lumped, and how they change. */
final class BlocksTest {
    private static final String SQUARE = "walk 4;edge 0 1 1;edge 1 2 1;edge 2 3 1;edge 3 0 1;";

    public static void main(String[] args) {
        promise19BlockOf();
        promise20BlockCount();
        promise21IsLumpable();
        promise22Parted();
        promise23Lumped();
        promise24LumpedTime();
        promise31Join();
        promise32Separate();
        promise33Refine();
        Checks.end("BlocksTest");
    }

    private static void blocks(String what, RandomWalks x, int... due) {
        for (int v = 0; v < due.length; v++) {
            Checks.same(what + ": blockOf(" + v + ")", x.blockOf(v), due[v]);
        }
    }

    private static void promise19BlockOf() {
        RandomWalks x = Checks.loaded("walk 6;join 4 1;join 5 2;join 2 1;");
        blocks("joined", x, 0, 1, 1, 2, 1, 1);
        Checks.noIndex("blockOf(6)", () -> x.blockOf(6));
        Checks.noIndex("blockOf(-1)", () -> x.blockOf(-1));
        blocks("not joined", Checks.loaded(SQUARE), 0, 1, 2, 3);
    }

    private static void promise20BlockCount() {
        Checks.same("blockCount", Checks.loaded("walk 6;join 4 1;join 5 2;join 2 1;").blockCount(), 3);
        Checks.same("blockCount", Checks.loaded(SQUARE).blockCount(), 4);
        Checks.same("blockCount", Checks.loaded("walk 2;join 1 0;").blockCount(), 1);
    }

    private static void promise21IsLumpable() {
        Checks.yes("each vertex a block", () -> Checks.loaded("walk 3;edge 0 1 1;").isLumpable());
        Checks.yes("one block", () -> Checks.loaded("walk 3;edge 0 1 1;join 0 1;join 1 2;").isLumpable());
        Checks.yes("opposite corners", () -> Checks.loaded(SQUARE + "join 0 2;").isLumpable());
        Checks.yes("other weights, same chances",
                () -> Checks.loaded("walk 5;edge 0 1 2;edge 0 2 4;edge 3 1 1;edge 3 2 2;join 0 3;").isLumpable());
        Checks.yes("other chances",
                () -> !Checks.loaded("walk 5;edge 0 1 2;edge 0 2 4;edge 3 1 1;edge 3 2 1;join 0 3;").isLumpable());
        Checks.yes("steps inside blocks may differ",
                () -> Checks.loaded("walk 5;edge 0 1 5;edge 1 2 1;join 0 1;join 1 2;join 2 3;").isLumpable());
        Checks.yes("a vertex without edges beside one with an edge to another block",
                () -> !Checks.loaded("walk 3;edge 0 1 5;join 0 2;").isLumpable());
        Checks.yes("vertices without edges", () -> Checks.loaded("walk 3;join 0 2;").isLumpable());
    }

    private static void promise22Parted() {
        Checks.same("parted", Checks.loaded(SQUARE + "join 0 2;").parted(), -1);
        Checks.same("parted", Checks.loaded("walk 3;edge 0 1 1;edge 1 2 2;join 0 1;").parted(), 11);
        RandomWalks x = Checks.loaded("walk 6;edge 0 2 1;edge 1 3 1;edge 4 2 1;edge 5 3 1;join 0 4;join 1 5;join 4 1;");
        Checks.same("parted: the smallest y", x.parted(), 11);
        x.separate(1);
        Checks.same("parted: a larger y", x.parted(), 52);
        x.separate(0);
        Checks.same("parted: a larger x", x.parted(), 452);
        Checks.same("parted: the smallest block",
                Checks.loaded("walk 5;edge 0 2 1;edge 1 3 1;edge 0 4 1;edge 1 4 1;join 0 1;").parted(), 11);
        Checks.same("parted: no own block",
                Checks.loaded("walk 5;edge 1 2 1;edge 2 4 1;edge 3 4 1;join 1 2;join 2 3;").parted(), 122);
    }

    private static void promise23Lumped() {
        RandomWalks x = Checks.loaded(SQUARE + "join 1 3;");
        Checks.fraction("lumped(1, 0)", below -> x.lumped(1, 0, below), 1, 2);
        Checks.fraction("lumped(0, 1)", below -> x.lumped(0, 1, below), 1, 1);
        Checks.fraction("lumped(0, 2)", below -> x.lumped(0, 2, below), 0, 1);
        Checks.fraction("lumped(1, 1)", below -> x.lumped(1, 1, below), 0, 1);
        Checks.noIndex("lumped(3, 0)", () -> x.lumped(3, 0, false));
        Checks.noIndex("lumped(0, 3)", () -> x.lumped(0, 3, false));
        Checks.noIndex("lumped(-1, 0)", () -> x.lumped(-1, 0, false));
        RandomWalks sides = Checks.loaded(SQUARE + "join 0 1;join 2 3;");
        Checks.fraction("lumped(0, 0)", below -> sides.lumped(0, 0, below), 1, 2);
        Checks.fraction("lumped(0, 1)", below -> sides.lumped(0, 1, below), 1, 2);
        RandomWalks apart = Checks.loaded("walk 5;edge 0 1 3;edge 2 1 9;join 3 4;join 0 2;");
        Checks.fraction("lumped(2, 2) of vertices without edges", below -> apart.lumped(2, 2, below), 1, 1);
        Checks.fraction("lumped(2, 0)", below -> apart.lumped(2, 0, below), 0, 1);
        Checks.fraction("lumped(1, 0)", below -> apart.lumped(1, 0, below), 1, 1);
        RandomWalks not = Checks.loaded("walk 3;edge 0 1 1;edge 1 2 2;join 0 1;");
        Checks.noState("lumped of what cannot be lumped", () -> not.lumped(0, 0, false));
        Checks.noIndex("lumped(2, 0) of what cannot be lumped", () -> not.lumped(2, 0, false));
    }

    private static void promise24LumpedTime() {
        RandomWalks x = Checks.loaded(SQUARE + "join 1 3;");
        Checks.fraction("lumpedTime(0, 2)", below -> x.lumpedTime(0, 2, below), 4, 1);
        Checks.fraction("lumpedTime(1, 2)", below -> x.lumpedTime(1, 2, below), 3, 1);
        Checks.fraction("lumpedTime(1, 1)", below -> x.lumpedTime(1, 1, below), 0, 1);
        Checks.noIndex("lumpedTime(3, 0)", () -> x.lumpedTime(3, 0, false));
        Checks.noIndex("lumpedTime(0, -1)", () -> x.lumpedTime(0, -1, false));
        RandomWalks sides = Checks.loaded("walk 5;edge 0 1 3;edge 2 3 3;edge 0 2 2;edge 1 3 2;join 0 1;join 2 3;");
        Checks.fraction("lumpedTime with steps inside", below -> sides.lumpedTime(0, 1, below), 5, 2);
        Checks.fraction("lumpedTime(2, 2)", below -> sides.lumpedTime(2, 2, below), 0, 1);
        Checks.noState("lumpedTime(0, 2)", () -> sides.lumpedTime(0, 2, false));
        Checks.noState("lumpedTime(2, 1)", () -> sides.lumpedTime(2, 1, false));
        RandomWalks not = Checks.loaded("walk 3;edge 0 1 1;edge 1 2 2;join 0 1;");
        Checks.noState("lumpedTime of what cannot be lumped", () -> not.lumpedTime(1, 1, false));
        Checks.noIndex("lumpedTime(0, 2) of what cannot be lumped", () -> not.lumpedTime(0, 2, false));
    }

    private static void promise31Join() {
        RandomWalks x = Checks.loaded("walk 6;");
        Checks.same("join(5, 3)", x.join(5, 3), 5);
        blocks("join(5, 3)", x, 0, 1, 2, 3, 4, 3);
        Checks.same("join(3, 5)", x.join(3, 5), 5);
        Checks.same("join(4, 4)", x.join(4, 4), 5);
        Checks.same("join(4, 0)", x.join(4, 0), 4);
        Checks.same("join(5, 4)", x.join(5, 4), 3);
        blocks("join(5, 4)", x, 0, 1, 2, 0, 0, 0);
        Checks.noIndex("join(0, 6)", () -> x.join(0, 6));
        Checks.noIndex("join(-1, 0)", () -> x.join(-1, 0));
    }

    private static void promise32Separate() {
        RandomWalks x = Checks.loaded("walk 6;join 0 2;join 0 4;join 1 5;");
        Checks.same("separate(0)", x.separate(0), 4);
        blocks("separate(0)", x, 0, 1, 2, 3, 2, 1);
        Checks.same("separate(0) again", x.separate(0), 4);
        Checks.same("separate(5)", x.separate(5), 5);
        blocks("separate(5)", x, 0, 1, 2, 3, 2, 4);
        Checks.noIndex("separate(6)", () -> x.separate(6));
        Checks.noIndex("separate(-1)", () -> x.separate(-1));
    }

    private static void promise33Refine() {
        RandomWalks path = Checks.loaded("walk 5;edge 0 1 1;edge 1 2 1;edge 2 3 1;edge 3 4 1;"
                + "join 0 4;join 1 2;join 2 3;");
        Checks.same("refine", path.refine(), 3);
        blocks("refine", path, 0, 1, 2, 1, 0);
        Checks.yes("isLumpable", path::isLumpable);
        RandomWalks all = Checks.loaded("walk 6;edge 0 1 1;join 0 1;join 1 2;join 2 3;join 3 4;join 4 5;");
        Checks.same("refine of one block", all.refine(), 1);
        // In three rounds: first 0 parts from 1, 2 and 4 by its edge to 3, then 1 by that to 0, then 2 by that to 1.
        RandomWalks rounds = Checks.loaded("walk 5;edge 0 3 1;edge 0 1 1;edge 1 2 1;edge 2 4 1;join 0 1;join 1 2;join 2 4;");
        Checks.same("refine in rounds", rounds.refine(), 5);
        blocks("refine in rounds", rounds, 0, 1, 2, 3, 4);
        RandomWalks split = Checks.loaded("walk 6;edge 0 4 1;edge 1 5 1;edge 2 4 3;edge 3 5 7;join 0 1;join 1 2;join 2 3;");
        Checks.same("refine into two", split.refine(), 4);
        blocks("refine into two", split, 0, 1, 0, 1, 2, 3);
        Checks.same("refine again", split.refine(), 4);
        Checks.same("undo both", split.undo() + split.undo(), 3);
        blocks("undone", split, 0, 0, 0, 0, 1, 2);
    }
}

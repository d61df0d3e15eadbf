/**
 * The blocks (promises 19 to 24 and 31 to 33), a sentence of the document at a time: each that names a boundary
 * is tested on both of its sides.
 */
final class BlocksBoundsTest {
    private static final String PATH = "walk 6;edge 0 1 1;edge 1 2 1;edge 2 3 1;edge 3 4 1;edge 4 5 1;";
    private static final String FOLDED = PATH + "join 5 0;join 4 1;join 3 2;";

    public static void main(String[] args) {
        blocksAreNumberedFrom0();
        joinOfTheSameBlock();
        joinOfAll();
        separateFromABlock();
        countOfBlocks();
        lumpableAtTheEnds();
        ownBlockDoesNotCount();
        transitionsMustBeTheSame();
        verticesWithoutEdges();
        partedOfNone();
        partedTellsTheFirst();
        lumpedTransitions();
        lumpedToItself();
        blocksThatDoNotExist();
        blocksThatCannotBeLumped();
        lumpedTimeOfTheSameBlock();
        lumpedTimes();
        lumpedTimeOfNoWay();
        refineAsLittleAsPossible();
        refineAllAtOnce();
        refineInManyRounds();
        refineWhereNothingIsToDo();
        Checks.end("BlocksBoundsTest");
    }

    private static void blocks(String what, RandomWalks x, int... due) {
        int count = 0;
        for (int v = 0; v < due.length; v++) {
            Checks.same(what + ": blockOf(" + v + ")", x.blockOf(v), due[v]);
            count = Math.max(count, due[v] + 1);
        }
        Checks.same(what + ": blockCount", x.blockCount(), count);
    }

    private static void blocksAreNumberedFrom0() {
        Checks.sentence("Blocks are numbered from 0 in the order of their smallest vertices.");
        blocks("at first", Checks.loaded("walk 6;"), 0, 1, 2, 3, 4, 5);
        blocks("in a text", Checks.loaded("walk 6;join 5 0;"), 0, 1, 2, 3, 4, 0);
        blocks("in a text", Checks.loaded("walk 6;join 4 5;join 2 3;join 3 5;"), 0, 1, 2, 2, 2, 2);
        RandomWalks x = Checks.loaded("walk 6;");
        x.join(5, 0);
        blocks("join(5, 0)", x, 0, 1, 2, 3, 4, 0);
        x.join(4, 1);
        blocks("join(4, 1)", x, 0, 1, 2, 3, 1, 0);
        x.separate(0);
        blocks("separate(0)", x, 0, 1, 2, 3, 1, 4);
        x.separate(1);
        blocks("separate(1)", x, 0, 1, 2, 3, 4, 5);
        x.join(2, 5);
        x.join(1, 3);
        blocks("join(1, 3)", x, 0, 1, 2, 1, 3, 2);
        x.join(5, 4);
        blocks("join(5, 4)", x, 0, 1, 2, 1, 2, 2);
        x.join(4, 0);
        blocks("join(4, 0)", x, 0, 1, 0, 1, 0, 0);
        x.separate(0);
        blocks("separate(0)", x, 0, 1, 2, 1, 2, 2);
        Checks.noIndexOutside("blockOf", 6, x::blockOf);
    }

    private static void joinOfTheSameBlock() {
        Checks.sentence("The blocks of two vertices become one block (if they are not the same already).");
        RandomWalks x = Checks.loaded("walk 6;join 1 4;");
        Checks.same("join of one vertex", x.join(3, 3), 5);
        Checks.same("join of one block", x.join(4, 1), 5);
        Checks.same("join of one block", x.join(1, 4), 5);
        blocks("join of the same", x, 0, 1, 2, 3, 1, 4);
        Checks.same("join of others", x.join(5, 4), 4);
        blocks("join of others", x, 0, 1, 2, 3, 1, 1);
        Checks.same("undo", x.undo(), 4);
        blocks("undo of a join", x, 0, 1, 2, 3, 1, 4);
    }

    private static void joinOfAll() {
        Checks.sentence("Returns the number of blocks then.");
        RandomWalks x = Checks.loaded("walk 6;");
        for (int v = 5; v > 0; v--) {
            Checks.same("join", x.join(v, v - 1), v);
        }
        blocks("all", x, 0, 0, 0, 0, 0, 0);
        Checks.same("join in the one block", x.join(5, 0), 1);
        for (int v = 0; v < 6; v++) {
            Checks.same("separate", x.separate(v), Math.min(6, v + 2));
        }
        blocks("none", x, 0, 1, 2, 3, 4, 5);
        RandomWalks two = Checks.loaded("walk 2;");
        Checks.same("join of two", two.join(1, 0), 1);
        Checks.same("separate of two", two.separate(1), 2);
        Checks.same("refine", two.refine(), 2);
    }

    private static void separateFromABlock() {
        Checks.sentence("A vertex becomes a block of its own.");
        RandomWalks x = Checks.loaded("walk 6;join 0 2;join 0 4;join 1 5;");
        Checks.same("separate of one alone", x.separate(3), 3);
        blocks("separate of one alone", x, 0, 1, 0, 2, 0, 1);
        Checks.same("separate of the last", x.separate(4), 4);
        blocks("separate of the last", x, 0, 1, 0, 2, 3, 1);
        Checks.same("separate of the first", x.separate(0), 5);
        blocks("separate of the first", x, 0, 1, 2, 3, 4, 1);
        Checks.same("separate of a pair", x.separate(1), 6);
        blocks("separate of a pair", x, 0, 1, 2, 3, 4, 5);
        Checks.noIndexOutside("separate", 6, x::separate);
    }

    private static void countOfBlocks() {
        Checks.sentence("Returns the number of blocks.");
        Checks.same("no vertices", new RandomWalks().blockCount(), 0);
        Checks.same("at first", Checks.loaded("walk 2;").blockCount(), 2);
        Checks.same("at first", Checks.loaded("walk 6;").blockCount(), 6);
        Checks.same("one", Checks.loaded("walk 6;join 0 1;join 2 3;join 4 5;join 1 2;join 3 4;").blockCount(), 1);
    }

    private static void lumpableAtTheEnds() {
        Checks.sentence("The blocks can be lumped if any two vertices of the same block have the same transition "
                + "to each other block (other than their own one).");
        Checks.yes("no vertices", () -> new RandomWalks().isLumpable());
        RandomWalks each = Checks.loaded("walk 4;edge 0 1 2;edge 1 2 7;");
        Checks.yes("each vertex a block", each::isLumpable);
        Checks.same("parted of each vertex a block", each.parted(), -1);
        RandomWalks one = Checks.loaded("walk 4;edge 0 1 2;edge 1 2 7;join 0 1;join 1 2;join 2 3;");
        Checks.yes("one block", one::isLumpable);
        Checks.same("parted of one block", one.parted(), -1);
        one.separate(3);
        Checks.yes("one block and a vertex without a way", one::isLumpable);
        one.addEdge(3, 2, 1);
        Checks.yes("one block and a vertex with a way", () -> !one.isLumpable());
        Checks.same("parted", one.parted(), 21);
    }

    private static void ownBlockDoesNotCount() {
        Checks.sentence("(other than their own one)");
        // 0 goes inside its block with 1 / 2, and so does 1 with other weights; 2 and 3 do not.
        RandomWalks x = Checks.loaded("walk 5;edge 0 1 3;edge 0 4 3;edge 1 4 3;edge 2 3 9;join 0 1;join 2 3;");
        Checks.yes("the same to the others", x::isLumpable);
        x.join(0, 4);
        Checks.yes("other steps inside", x::isLumpable);
        x.setWeight(0, 9);
        Checks.yes("others still inside", x::isLumpable);
        x.undo();
        x.undo();
        x.setWeight(1, 9);
        Checks.yes("others to the others", () -> !x.isLumpable());
        Checks.same("parted", x.parted(), 12);
    }

    private static void transitionsMustBeTheSame() {
        Checks.sentence("any two vertices of the same block have the same transition to each other block");
        String same = "walk 6;edge 0 4 1;edge 0 5 2;edge 1 4 3;edge 1 5 6;edge 2 4 4;edge 2 5 8;join 0 1;join 1 2;";
        RandomWalks x = Checks.loaded(same);
        Checks.yes("1 / 3, 3 / 9 and 4 / 12", x::isLumpable);
        Checks.same("parted", x.parted(), -1);
        x.setWeight(5, 9);
        Checks.yes("1 / 3, 3 / 9 and 4 / 13", () -> !x.isLumpable());
        Checks.same("parted of the third", x.parted(), 22);
        x.setWeight(5, 8);
        x.setWeight(2, 4);
        Checks.same("parted of the second", x.parted(), 12);
        RandomWalks near = Checks.loaded("walk 6;edge 0 2 8;edge 0 3 9;edge 1 2 7;edge 1 3 8;join 0 1;");
        Checks.yes("8 / 17 and 7 / 15", () -> !near.isLumpable());
        // The same weight, but of another degree.
        RandomWalks degree = Checks.loaded("walk 4;edge 0 2 1;edge 1 2 1;edge 1 3 1;join 0 1;");
        Checks.same("1 / 1 and 1 / 2", degree.parted(), 11);
        // The steps to all vertices of the other block are added up.
        RandomWalks sums = Checks.loaded("walk 6;edge 0 2 1;edge 0 3 3;edge 0 4 4;edge 1 2 3;edge 1 3 1;edge 1 4 4;"
                + "join 0 1;join 2 3;");
        Checks.yes("1 + 3 and 3 + 1, but back 1 / 4 and 3 / 4 add up too", sums::isLumpable);
        sums.separate(2);
        Checks.same("parted of the parts", sums.parted(), 11);
    }

    private static void verticesWithoutEdges() {
        Checks.sentence("If the vertex has no edges, the step leads to itself with the probability 1.");
        RandomWalks x = Checks.loaded("walk 5;edge 0 1 5;join 0 2;");
        Checks.yes("with an edge to another block, and without", () -> !x.isLumpable());
        Checks.same("parted", x.parted(), 21);
        x.join(0, 1);
        Checks.yes("with an edge inside the block, and without", x::isLumpable);
        Checks.fraction("lumped(0, 0)", below -> x.lumped(0, 0, below), 1, 1);
        x.join(3, 4);
        Checks.yes("two without", x::isLumpable);
        Checks.fraction("lumped(1, 1)", below -> x.lumped(1, 1, below), 1, 1);
        Checks.fraction("lumped(1, 0)", below -> x.lumped(1, 0, below), 0, 1);
    }

    private static void partedOfNone() {
        Checks.sentence("-1 if there are none.");
        Checks.same("no vertices", new RandomWalks().parted(), -1);
        Checks.same("a folded path", Checks.loaded(FOLDED).parted(), -1);
        Checks.same("without edges", Checks.loaded("walk 6;join 0 1;join 2 3;join 4 5;").parted(), -1);
    }

    private static void partedTellsTheFirst() {
        Checks.sentence("Returns 100 * x + 10 * y + b for the first two vertices x and y of the same block, x less than y, "
                + "that have different transitions to another block, and the smallest such block b; "
                + "first is the smallest x, then the smallest y");
        Checks.same("x is 0, b is 0", Checks.loaded("walk 3;edge 0 1 1;join 1 2;").parted(), 120);
        Checks.same("the largest of all", Checks.loaded("walk 6;edge 5 3 1;join 4 5;").parted(), 453);
        Checks.same("the largest b", Checks.loaded("walk 6;edge 0 5 1;join 0 1;").parted(), 14);
        // 0 and 1 are the same, 0 and 2 are not; neither are 3 and 4.
        RandomWalks x = Checks.loaded("walk 6;edge 2 5 1;edge 3 5 1;join 0 1;join 1 2;join 3 4;");
        Checks.same("the smallest y", x.parted(), 22);
        x.separate(0);
        Checks.same("a larger x", x.parted(), 123);
        x.separate(1);
        Checks.same("the other block", x.parted(), 344);
        x.separate(3);
        Checks.same("none", x.parted(), -1);
        // The smallest block is not the first that an edge leads to.
        Checks.same("the smallest b", Checks.loaded("walk 6;edge 4 5 1;edge 4 1 1;edge 3 5 2;edge 3 1 1;join 3 4;").parted(), 341);
        Checks.same("the same to 1", Checks.loaded("walk 6;edge 4 1 1;edge 4 5 1;edge 3 1 1;edge 3 2 1;join 3 4;").parted(), 342);
    }

    private static void lumpedTransitions() {
        Checks.sentence("Then the transition from a block to another one is that of its vertices, and the one from a block "
                + "to itself is 1 minus the sum of those to the others.");
        RandomWalks x = Checks.loaded(FOLDED);
        long[][] above = {{0, 1, 0}, {1, 0, 1}, {0, 1, 1}};
        long[][] below = {{1, 1, 1}, {2, 1, 2}, {1, 2, 2}};
        for (int a = 0; a < 3; a++) {
            for (int b = 0; b < 3; b++) {
                int from = a;
                int to = b;
                Checks.fraction("lumped(" + a + ", " + b + ")", isBelow -> x.lumped(from, to, isBelow), above[a][b], below[a][b]);
            }
        }
        RandomWalks each = Checks.loaded("walk 6;edge 5 0 1;edge 5 1 9;edge 5 3 5;");
        for (int a = 0; a < 6; a++) {
            for (int b = 0; b < 6; b++) {
                int from = a;
                int to = b;
                Checks.fraction("lumped(" + a + ", " + b + ") of single vertices", isBelow -> each.lumped(from, to, isBelow),
                        each.transition(a, b, false), each.transition(a, b, true));
            }
        }
    }

    private static void lumpedToItself() {
        Checks.sentence("the one from a block to itself is 1 minus the sum of those to the others.");
        RandomWalks one = Checks.loaded("walk 3;edge 0 1 5;join 0 1;join 1 2;");
        Checks.fraction("the only block", below -> one.lumped(0, 0, below), 1, 1);
        RandomWalks single = Checks.loaded("walk 2;edge 0 1 5;");
        Checks.fraction("a single vertex", below -> single.lumped(0, 0, below), 0, 1);
        RandomWalks inside = Checks.loaded("walk 5;edge 0 1 1;edge 0 2 2;edge 1 2 2;edge 3 4 7;join 0 1;join 3 4;");
        Checks.fraction("a third inside", below -> inside.lumped(0, 0, below), 1, 3);
        Checks.fraction("all inside", below -> inside.lumped(2, 2, below), 1, 1);
        Checks.fraction("none inside", below -> inside.lumped(1, 1, below), 0, 1);
        // The vertices of a block may have other degrees.
        RandomWalks degrees = Checks.loaded("walk 4;edge 0 1 3;edge 0 2 6;edge 1 3 6;join 0 1;join 2 3;");
        Checks.fraction("3 of 9", below -> degrees.lumped(0, 0, below), 1, 3);
        Checks.fraction("6 of 6", below -> degrees.lumped(1, 0, below), 1, 1);
    }

    private static void blocksThatDoNotExist() {
        Checks.sentence("if one of the blocks does not exist");
        RandomWalks x = Checks.loaded(FOLDED);
        Checks.noIndexOutside("lumped from", 3, b -> x.lumped(b, 0, false));
        Checks.noIndexOutside("lumped to", 3, b -> x.lumped(0, b, false));
        Checks.noIndexOutside("lumpedTime from", 3, b -> x.lumpedTime(b, 0, false));
        Checks.noIndexOutside("lumpedTime to", 3, b -> x.lumpedTime(0, b, false));
        x.join(0, 1);
        Checks.same("blockCount", x.blockCount(), 2);
        Checks.yes("not lumpable", () -> !x.isLumpable());
        Checks.noIndexOutside("lumped from, not lumpable", 2, b -> x.lumped(b, 0, false));
        Checks.noIndexOutside("lumped to, not lumpable", 2, b -> x.lumped(0, b, false));
        Checks.noIndexOutside("lumpedTime from, not lumpable", 2, b -> x.lumpedTime(b, 0, false));
        Checks.noIndexOutside("lumpedTime to, not lumpable", 2, b -> x.lumpedTime(0, b, false));
    }

    private static void blocksThatCannotBeLumped() {
        Checks.sentence("if the blocks cannot be lumped");
        RandomWalks x = Checks.loaded("walk 3;edge 0 1 1;edge 1 2 2;join 0 1;");
        for (int a = 0; a < 2; a++) {
            for (int b = 0; b < 2; b++) {
                int from = a;
                int to = b;
                Checks.noState("lumped", () -> x.lumped(from, to, false));
                Checks.noState("lumpedTime", () -> x.lumpedTime(from, to, true));
            }
        }
        x.refine();
        Checks.fraction("lumped after refine", below -> x.lumped(1, 2, below), 2, 3);
        x.undo();
        Checks.noState("lumped after undo", () -> x.lumped(0, 1, false));
    }

    private static void lumpedTimeOfTheSameBlock() {
        Checks.sentence("Returns the mean number of steps until a walk that begins in the former is in the latter "
                + "for the first time.");
        RandomWalks x = Checks.loaded(FOLDED);
        for (int b = 0; b < 3; b++) {
            int block = b;
            Checks.fraction("lumpedTime of one block", below -> x.lumpedTime(block, block, below), 0, 1);
        }
        RandomWalks apart = Checks.loaded("walk 2;join 0 1;");
        Checks.fraction("lumpedTime without edges", below -> apart.lumpedTime(0, 0, below), 0, 1);
    }

    private static void lumpedTimes() {
        Checks.sentence("(So walks from block to block are random walks, too.)");
        RandomWalks x = Checks.loaded(FOLDED);
        Checks.fraction("lumpedTime(0, 1)", below -> x.lumpedTime(0, 1, below), 1, 1);
        Checks.fraction("lumpedTime(0, 2)", below -> x.lumpedTime(0, 2, below), 4, 1);
        Checks.fraction("lumpedTime(1, 2)", below -> x.lumpedTime(1, 2, below), 3, 1);
        Checks.fraction("lumpedTime(2, 1)", below -> x.lumpedTime(2, 1, below), 2, 1);
        Checks.fraction("lumpedTime(2, 0)", below -> x.lumpedTime(2, 0, below), 6, 1);
        Checks.fraction("lumpedTime(1, 0)", below -> x.lumpedTime(1, 0, below), 4, 1);
        RandomWalks each = Checks.loaded("walk 6;edge 0 1 1;edge 1 2 9;edge 2 3 9;edge 3 4 9;edge 4 5 9;");
        Checks.fraction("lumpedTime(5, 0) of single vertices", below -> each.lumpedTime(5, 0, below), 89, 1);
        Checks.fraction("lumpedTime(0, 5) of single vertices", below -> each.lumpedTime(0, 5, below), 161, 9);
    }

    private static void lumpedTimeOfNoWay() {
        Checks.sentence("or if no vertex of the latter can be reached from a vertex of the former");
        // Blocks 0 and 1 are two edges between them, 2 is an edge, 3 a vertex without edges.
        RandomWalks x = Checks.loaded("walk 6;edge 0 1 1;edge 2 3 8;edge 4 5 1;join 0 2;join 1 3;");
        Checks.same("blockCount", x.blockCount(), 4);
        int[] part = {0, 0, 1, 1};
        for (int a = 0; a < 4; a++) {
            for (int b = 0; b < 4; b++) {
                int from = a;
                int to = b;
                if (part[a] == part[b]) {
                    Checks.fraction("lumpedTime", below -> x.lumpedTime(from, to, below), a == b ? 0 : 1, 1);
                } else {
                    Checks.noState("lumpedTime", () -> x.lumpedTime(from, to, false));
                    Checks.fraction("lumped", below -> x.lumped(from, to, below), 0, 1);
                }
            }
        }
    }

    private static void refineAsLittleAsPossible() {
        Checks.sentence("To refine the blocks means to divide them as little as possible so that they can be lumped");
        RandomWalks path = Checks.loaded("walk 5;edge 0 1 1;edge 1 2 1;edge 2 3 1;edge 3 4 1;join 0 4;join 1 2;join 2 3;");
        Checks.same("refine of a path", path.refine(), 3);
        blocks("refine of a path", path, 0, 1, 2, 1, 0);
        RandomWalks two = Checks.loaded("walk 6;edge 0 4 1;edge 1 5 1;edge 2 4 3;edge 3 5 7;join 0 1;join 1 2;join 2 3;");
        Checks.same("refine into two", two.refine(), 4);
        blocks("refine into two", two, 0, 1, 0, 1, 2, 3);
        // As 4 and 5 are one block, the others need not part.
        two.join(4, 5);
        two.join(0, 1);
        Checks.same("refine into none", two.refine(), 2);
        blocks("refine into none", two, 0, 0, 0, 0, 1, 1);
    }

    private static void refineAllAtOnce() {
        Checks.sentence("all blocks are divided at once, so that two vertices stay together just if they were in the same "
                + "block and have the same transitions to all blocks other than that one.");
        // Both blocks part by 4; 1 and 3 go to it alike, but were not in one block.
        RandomWalks x = Checks.loaded("walk 6;edge 1 4 1;edge 3 4 1;join 0 1;join 2 3;");
        Checks.same("refine", x.refine(), 6);
        blocks("refine", x, 0, 1, 2, 3, 4, 5);
        // 0 and 2, and 1 and 5, are alike, but were not in one block.
        RandomWalks apart = Checks.loaded("walk 6;edge 0 4 1;edge 2 4 1;join 0 1;join 2 5;join 5 3;");
        Checks.same("refine", apart.refine(), 5);
        blocks("refine", apart, 0, 1, 2, 3, 4, 3);
    }

    private static void refineInManyRounds() {
        Checks.sentence("as long as there is a block with vertices that have different transitions to some other block");
        RandomWalks x = Checks.loaded(PATH + "join 0 1;join 1 2;join 2 3;join 3 4;");
        Checks.same("refine in four rounds", x.refine(), 6);
        blocks("refine in four rounds", x, 0, 1, 2, 3, 4, 5);
        Checks.yes("isLumpable", x::isLumpable);
        Checks.same("undo of all rounds", x.undo(), 1);
        blocks("undo of all rounds", x, 0, 0, 0, 0, 0, 1);
        RandomWalks folded = Checks.loaded(PATH + "join 0 5;join 1 2;join 2 3;join 3 4;");
        Checks.same("refine of a path with its ends joined", folded.refine(), 3);
        blocks("refine of a path with its ends joined", folded, 0, 1, 2, 2, 1, 0);
    }

    private static void refineWhereNothingIsToDo() {
        Checks.sentence("Refines the blocks.");
        Checks.same("no vertices", new RandomWalks().refine(), 0);
        RandomWalks folded = Checks.loaded(FOLDED);
        Checks.same("a folded path", folded.refine(), 3);
        blocks("a folded path", folded, 0, 1, 2, 2, 1, 0);
        RandomWalks one = Checks.loaded(PATH + "join 0 1;join 1 2;join 2 3;join 3 4;join 4 5;");
        Checks.same("one block", one.refine(), 1);
        Checks.same("single vertices", Checks.loaded(PATH).refine(), 6);
        Checks.same("without edges", Checks.loaded("walk 6;join 0 5;").refine(), 5);
    }
}

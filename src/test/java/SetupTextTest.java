/** Promises 1 to 5: a new object, append, load, errorOffset, size. */
final class SetupTextTest {
    private static final int SYNTAX = RandomWalks.SYNTAX_ERROR;
    private static final int RANGE = RandomWalks.OUT_OF_RANGE;
    private static final int DUPLICATE = RandomWalks.DUPLICATE;
    private static final int DEEP = RandomWalks.TOO_DEEP;

    public static void main(String[] args) {
        constants();
        promise1NewObject();
        promise2Append();
        promise3Load();
        promise3LoadThrows();
        promise3Spaces();
        promise3SyntaxErrors();
        promise3RangeErrors();
        promise3Duplicates();
        promise3Depth();
        promise3FirstError();
        promise3CostValues();
        promise3CostLimits();
        promise3LongTexts();
        promise3LoadAfterErrors();
        promise3FailedLoadChangesNothing();
        promise4ErrorOffset();
        promise5Size();
        Checks.end("SetupTextTest");
    }

    private static void constants() {
        Checks.same("SYNTAX_ERROR", SYNTAX, -2);
        Checks.same("OUT_OF_RANGE", RANGE, -3);
        Checks.same("DUPLICATE", DUPLICATE, -4);
        Checks.same("TOO_DEEP", DEEP, -5);
    }

    private static void promise1NewObject() {
        RandomWalks x = new RandomWalks();
        Checks.same("size", x.size(), 0);
        Checks.same("edgeCount", x.edgeCount(), 0);
        Checks.same("absorbing", x.absorbing(), 0);
        Checks.same("blockCount", x.blockCount(), 0);
        Checks.same("trees", x.trees(), 0);
        Checks.same("errorOffset", x.errorOffset(), -1);
        Checks.same("undo", x.undo(), -1);
        Checks.same("parted", x.parted(), -1);
        Checks.yes("isLumpable", x::isLumpable);
        Checks.noArgument("load(1) of an empty buffer", () -> x.load(1));
        Checks.noIndex("after", () -> (long) x.after(0, 0, 0));
        Checks.noIndex("walk", () -> x.walk(0, 0, 0, 0));
        Checks.noIndex("setWeight", () -> x.setWeight(0, 1));
        Checks.noIndex("addEdge", () -> x.addEdge(0, 1, 1));
        Checks.noIndex("removeEdge", () -> x.removeEdge(0));
        Checks.noIndex("setAbsorbing", () -> x.setAbsorbing(0, true));
        Checks.noIndex("join", () -> x.join(0, 0));
        Checks.noIndex("separate", () -> x.separate(0));
    }

    private static void promise2Append() {
        RandomWalks x = new RandomWalks();
        for (int k = 1; k <= 30; k++) {
            Checks.same("append " + k, x.append(0x20202020, 0x20202020, 0x20202020, 0x20202020, 0x20202020), 20 * k);
        }
        Checks.same("append 31", x.append(0x77616c6b, 0, 0, 0, 0), -1);
        Checks.noArgument("load(601)", () -> x.load(601));
        Checks.same("load of spaces", x.load(600), SYNTAX);
        Checks.same("errorOffset", x.errorOffset(), 600);
        Checks.same("append after load", x.append(1, 2, 3, 4, 5), 20);
        RandomWalks order = new RandomWalks();
        Checks.same("append", order.append(0x77616c6b, 0x20343b65, 0x64676520, 0x33203220, 0x373b2020), 20);
        Checks.same("load", order.load(20), 1);
        Checks.same("size", order.size(), 4);
        Checks.same("low", order.edge(0, 0), 2);
        Checks.same("high", order.edge(0, 1), 3);
        Checks.same("weight", order.edge(0, 2), 7);
        RandomWalks high = new RandomWalks();
        Checks.same("append", high.append(0x77616c6b, 0x34bbe5e4, 0, 0, 0), 20);
        Checks.same("load of bytes above 127", high.load(8), SYNTAX);
        Checks.same("errorOffset", high.errorOffset(), 5);
    }

    private static void promise3Load() {
        RandomWalks x = Checks.loaded("walk 4;edge 3 1 9;edge 0 2 3;absorb 2;absorb 0;join 3 0;join 0 3;");
        Checks.same("edgeCount", x.edgeCount(), 2);
        Checks.same("low", x.edge(0, 0), 1);
        Checks.same("high", x.edge(0, 1), 3);
        Checks.same("weight", x.edge(0, 2), 9);
        Checks.same("low", x.edge(1, 0), 0);
        Checks.same("absorbing", x.absorbing(), 5);
        Checks.same("blockCount", x.blockCount(), 3);
        Checks.same("blockOf(3)", x.blockOf(3), 0);
        Checks.same("load again", Checks.load(x, "walk 2;"), 0);
        Checks.same("size", x.size(), 2);
        Checks.same("absorbing", x.absorbing(), 0);
        Checks.same("blockCount", x.blockCount(), 2);
        Checks.same("edgeCount", x.edgeCount(), 0);
        Checks.same("addEdge", x.addEdge(0, 1, 1), 0);
        Checks.same("cost without a statement", x.edge(0, 3), 1);
        Checks.same("a part of the buffer", loadPart("walk 3;edge 0 1 1;edge", 18), 1);
        Checks.same("a shorter part", loadPart("walk 3;edge 0 1 1;edge", 7), 0);
        Checks.same("a number cut off", loadPart("walk 3;edge 0 1 11;", 17), SYNTAX);
        Checks.same("all edges", Checks.loaded("walk 6;edge 0 1 1;edge 0 2 1;edge 0 3 1;edge 0 4 1;edge 0 5 1;edge 1 2 1;"
                + "edge 1 3 1;edge 1 4 1;edge 1 5 1;edge 2 3 1;edge 2 4 1;edge 2 5 1;edge 3 4 1;edge 3 5 1;edge 4 5 1;")
                .edgeCount(), 15);
    }

    private static int loadPart(String text, int length) {
        RandomWalks x = new RandomWalks();
        Checks.append(x, text);
        return x.load(length);
    }

    private static void promise3LoadThrows() {
        RandomWalks x = new RandomWalks();
        Checks.append(x, "walk 2;");
        Checks.noArgument("load(-1)", () -> x.load(-1));
        Checks.noArgument("load(21)", () -> x.load(21));
        Checks.noArgument("load(min)", () -> x.load(Integer.MIN_VALUE));
        Checks.noArgument("load(max)", () -> x.load(Integer.MAX_VALUE));
        Checks.same("append", x.append(0, 0, 0, 0, 0), 40);
        Checks.same("load", x.load(7), 0);
        Checks.noArgument("load(1) of an emptied buffer", () -> x.load(1));
        Checks.append(x, "walk 9;");
        Checks.same("load", x.load(7), RANGE);
        Checks.noArgument("load(1) of a buffer emptied by an error", () -> x.load(1));
    }

    private static void promise3Spaces() {
        Checks.same("no spaces", Checks.loaded("walk3;edge0 1 1;absorb2;join0 2;cost9;").edgeCount(), 1);
        Checks.same("spaces", Checks.loaded("  walk  3  ;  edge  0  1  1  ;  cost ( weight + 1 ) * 2 ;  ").edge(0, 3), 4);
        Checks.same("zeros", Checks.loaded("walk 0000000000000003;edge 00 01 09;cost 000000000000000000042;").edge(0, 4), 42);
    }

    private static void promise3SyntaxErrors() {
        Checks.error("", SYNTAX, 0);
        Checks.error("   ", SYNTAX, 3);
        Checks.error("walk", SYNTAX, 4);
        Checks.error("walk  ", SYNTAX, 6);
        Checks.error("walk 3", SYNTAX, 6);
        Checks.error("walks 3;", SYNTAX, 0);
        Checks.error("wal 3;", SYNTAX, 0);
        Checks.error(" Walk 3;", SYNTAX, 1);
        Checks.error("walkz 3;", SYNTAX, 0);
        Checks.error("walka 3;", SYNTAX, 0);
        Checks.error("walk{ 3;", SYNTAX, 4);
        Checks.error("walk` 3;", SYNTAX, 4);
        Checks.error("walk 3/;", SYNTAX, 6);
        Checks.error("walk 3:;", SYNTAX, 6);
        Checks.error("3;", SYNTAX, 0);
        Checks.error("edge 0 1 1;", SYNTAX, 0);
        Checks.error("walk 3;;", SYNTAX, 7);
        Checks.error("walk 3;walk 3;", SYNTAX, 7);
        Checks.error("walk 3;\n", SYNTAX, 7);
        Checks.error("walk 3;\tabsorb 1;", SYNTAX, 7);
        Checks.error("walk 3;absorb1 1;", SYNTAX, 15);
        Checks.error("walk 3;absorb -1;", SYNTAX, 14);
        Checks.error("walk 3;absorb;", SYNTAX, 13);
        Checks.error("walk 3;edge 02 1;", SYNTAX, 16);
        Checks.error("walk 3;edge 0 1 1 1;", SYNTAX, 18);
        Checks.error("walk 3;edge 0 1 1", SYNTAX, 17);
        Checks.error("walk 3;join 0;", SYNTAX, 13);
        Checks.error("walk 3;weight;", SYNTAX, 7);
        Checks.error("walk 3;cost;", SYNTAX, 11);
        Checks.error("walk 3;cost", SYNTAX, 11);
        Checks.error("walk 3;cost 1+;", SYNTAX, 14);
        Checks.error("walk 3;cost +1;", SYNTAX, 12);
        Checks.error("walk 3;cost 1 2;", SYNTAX, 14);
        Checks.error("walk 3;cost 1to;", SYNTAX, 13);
        Checks.error("walk 3;cost weightto;", SYNTAX, 12);
        Checks.error("walk 3;cost (1;", SYNTAX, 14);
        Checks.error("walk 3;cost (1", SYNTAX, 14);
        Checks.error("walk 3;cost 1);", SYNTAX, 13);
        Checks.error("walk 3;cost ();", SYNTAX, 13);
        Checks.error("walk 3;cost 1(2);", SYNTAX, 13);
        Checks.error("walk 3;cost edge;", SYNTAX, 12);
        Checks.error("walk 3;cost 1%2;", SYNTAX, 13);
        Checks.error("walk 3;cost 1;cost 2;", SYNTAX, 14);
        Checks.error("walk 3;cost 1;absorb 0;  cost 2;", SYNTAX, 25);
        Checks.error("walk 3;cost 1", SYNTAX, 13);
    }

    private static void promise3RangeErrors() {
        Checks.error("walk 1;", RANGE, 5);
        Checks.error("walk 7;", RANGE, 5);
        Checks.error("walk 0;", RANGE, 5);
        Checks.error("walk 00004294967298;", RANGE, 5);
        Checks.error("walk 18446744073709551618;", RANGE, 5);
        Checks.error("walk 3;edge 3 1 1;", RANGE, 12);
        Checks.error("walk 3;edge 0 3 1;", RANGE, 14);
        Checks.error("walk 3;edge 0 1 0;", RANGE, 16);
        Checks.error("walk 3;edge 0 1 10;", RANGE, 16);
        Checks.error("walk 3;absorb 3;", RANGE, 14);
        Checks.error("walk 3;join 3 0;", RANGE, 12);
        Checks.error("walk 3;join 0 3;", RANGE, 14);
        Checks.error("walk 3;cost 10000;", RANGE, 12);
        Checks.error("walk 3;cost 1+99999999999999;", RANGE, 14);
        Checks.same("walk 2", Checks.loaded("walk 2;").size(), 2);
        Checks.same("walk 6", Checks.loaded("walk 6;absorb 5;").size(), 6);
        Checks.same("cost 9999", Checks.loaded("walk 2;edge 0 1 1;cost 9999;").edge(0, 3), 99);
    }

    private static void promise3Duplicates() {
        Checks.error("walk 3;edge 1 1 1;", DUPLICATE, 14);
        Checks.error("walk 3;edge 1 1 0;", DUPLICATE, 14);
        Checks.error("walk 3;edge 1 1", DUPLICATE, 14);
        Checks.error("walk 3;edge 0 1 1;edge 0 1 1;", DUPLICATE, 25);
        Checks.error("walk 3;edge 0 1 1;edge 1 0 2;", DUPLICATE, 25);
        Checks.error("walk 3;absorb 1;absorb 1;", DUPLICATE, 23);
        Checks.error("walk 3;absorb 1;absorb 01;", DUPLICATE, 23);
        Checks.same("join of the same", Checks.loaded("walk 3;join 1 1;join 0 1;join 1 0;").blockCount(), 2);
    }

    private static void promise3Depth() {
        Checks.error("walk 3;cost (((((1)))));", DEEP, 16);
        Checks.error("walk 3;cost ((((1+(1)))));", DEEP, 18);
        Checks.error("walk 3;cost ((((1(", SYNTAX, 17);
        Checks.error("walk 3;cost (((((", DEEP, 16);
        Checks.same("four", Checks.loaded("walk 3;edge 0 1 5;cost ((((weight))))*((((2))));").edge(0, 3), 10);
        Checks.same("all waiting", Checks.loaded("walk 3;edge 0 1 5;cost 1+2*(3-4/(5+6*(7-8*(1+2*weight))));")
                .edge(0, 3), 7);
    }

    private static void promise3FirstError() {
        Checks.error("walk 9;edge", RANGE, 5);
        Checks.error("walk 3;edge 0 0 99;cost x;", DUPLICATE, 14);
        Checks.error("walk 3;cost (1+99999;", RANGE, 15);
        Checks.error("walk 3;absorb 1;absorb 1", DUPLICATE, 23);
        Checks.error("walk 3;absorb 5$", RANGE, 14);
        Checks.error("walk 3$;absorb 5;", SYNTAX, 6);
    }

    private static void promise3CostValues() {
        Checks.cost("weight*10+to-from", 51, 49);
        Checks.cost("10-2-3", 5, 5);
        Checks.cost("100/7/2", 7, 7);
        Checks.cost("100/7*2", 28, 28);
        Checks.cost("2+3*4", 14, 14);
        Checks.cost("(2+3)*4", 20, 20);
        Checks.cost("20-(2+3)", 15, 15);
        Checks.cost("9/0+3", 3, 3);
        Checks.cost("9/(from-from)+to", 1, 0);
        Checks.cost("7-9", 0, 0);
        Checks.cost("(3-10)/2+9", 6, 6);
        Checks.cost("99", 99, 99);
        Checks.cost("100", 99, 99);
        Checks.cost("from", 0, 1);
        Checks.cost("to", 1, 0);
        Checks.cost("weight", 5, 5);
    }

    /** The result of each operation is limited to the range -1000000 to 1000000. */
    private static void promise3CostLimits() {
        Checks.cost("9999*9999/9999-90", 10, 10);
        Checks.cost("9999*100+9999-9999*100-90", 10, 10);
        Checks.cost("0-9999*100-9999+9999*100+150", 50, 50);
        Checks.cost("(0-9999)*9999+9999*100+150", 50, 50);
        Checks.cost("9999*9999*9999/9999-90", 10, 10);
        Checks.cost("9999*100+100-9999*100-50", 50, 50);
    }

    private static void promise3LongTexts() {
        String start = "walk2;edge0 1 5;cost";
        String full = start + "9+" + "1-1+".repeat(144) + "3;";
        Checks.same("length of the full text", full.length(), 600);
        Checks.same("a long sum", Checks.loaded(full).edge(0, 3), 12);
        Checks.same("a long number", Checks.loaded(start + "0".repeat(578) + "7;").edge(0, 4), 7);
        Checks.error(start + "7".repeat(580), RANGE, 20);
        Checks.error("walk3;" + "absorb0;join0 1;".repeat(37), DUPLICATE, 28);
        Checks.same("many statements", Checks.loaded("walk3;" + "join0 1;".repeat(74)).blockCount(), 2);
    }

    /** What an error has left half read has no effect on the next text. */
    private static void promise3LoadAfterErrors() {
        RandomWalks x = new RandomWalks();
        for (int k = 0; k < 20; k++) {
            Checks.same("an unfinished sum", Checks.load(x, "walk 3;edge 0 2 1;absorb 1;cost 1-2*(3-4*(5"), SYNTAX);
        }
        Checks.same("load", Checks.load(x, "walk 3;edge 0 1 5;absorb 1;cost 9-2*(7-2*(1+1));"), 1);
        Checks.same("cost", x.edge(0, 3), 3);
        Checks.same("load", Checks.load(x, "walk 3;edge 0 1 5;"), 1);
        Checks.same("cost", x.edge(0, 3), 1);
        Checks.same("absorbing", x.absorbing(), 0);
    }

    private static void promise3FailedLoadChangesNothing() {
        RandomWalks x = Checks.loaded("walk 3;edge 0 1 2;edge 1 2 3;absorb 2;join 0 2;cost 7;");
        long sum = x.checksum();
        Checks.same("load", Checks.load(x, "walk 4;edge 0 3 1;absorb 1;join 1 2;cost 5;cost"), SYNTAX);
        Checks.same("checksum", x.checksum(), sum);
        Checks.same("cost", x.edge(0, 3), 7);
        Checks.same("size", x.size(), 3);
        Checks.same("undo of the first load alone", x.undo(), 0);
        Checks.same("size", x.size(), 0);
    }

    private static void promise4ErrorOffset() {
        RandomWalks x = new RandomWalks();
        Checks.same("errorOffset", x.errorOffset(), -1);
        Checks.load(x, "walk 8;");
        Checks.same("errorOffset", x.errorOffset(), 5);
        Checks.noArgument("load(3)", () -> x.load(3));
        Checks.same("errorOffset after a throw", x.errorOffset(), 5);
        Checks.load(x, "walk 2;");
        Checks.same("errorOffset", x.errorOffset(), -1);
        Checks.load(x, "walk 2");
        Checks.same("errorOffset", x.errorOffset(), 6);
        x.undo();
        Checks.same("errorOffset after undo", x.errorOffset(), 6);
    }

    private static void promise5Size() {
        RandomWalks x = new RandomWalks();
        Checks.load(x, "walk 7;");
        Checks.same("size", x.size(), 0);
        for (int n = 2; n <= 6; n++) {
            Checks.load(x, "walk " + n + ";");
            Checks.same("size", x.size(), n);
        }
    }
}

import java.util.List;

/**
 * The input buffer and the setup text (promises 1 to 5), a sentence of the document at a time: each that names
 * a boundary is tested on both of its sides.
 */
final class TextBoundsTest {
    private static final int SYNTAX = RandomWalks.SYNTAX_ERROR;
    private static final int RANGE = RandomWalks.OUT_OF_RANGE;
    private static final int DUPLICATE = RandomWalks.DUPLICATE;
    private static final int DEEP = RandomWalks.TOO_DEEP;

    public static void main(String[] args) {
        bufferHolds600Bytes();
        refusedAppendChangesNothing();
        bytesComeMostSignificantFirst();
        loadReadsTheFirstBytes();
        loadEmptiesTheBuffer();
        loadReplacesAllData();
        errorLeavesTheData();
        emptyTextIsASyntaxError();
        loadRefusesLengths();
        errorOffsetOfTheLatestLoad();
        numbersAreOfAnyLength();
        wordsAreLettersFromAToZ();
        wordsAreSpelledExactly();
        wordsInOtherPlaces();
        runsAreAsLongAsPossible();
        spacesAroundTokens();
        noSpaceBetweenWordAndNumber();
        noOtherByteSeparates();
        verticesOfWalk();
        verticesOfEdges();
        weightsOfEdges();
        edgesInTheOrderOfTheText();
        vertexOfAbsorb();
        verticesOfJoin();
        numbersAsFactors();
        parenthesesNestFourDeep();
        costMayOccurOnce();
        smallestOffsetCounts();
        sameOffsetFirstKindCounts();
        syntaxErrorAtItsFirstByte();
        endOfTheTextAtItsLength();
        rangeErrorAtItsFirstDigit();
        duplicateAtTheSecondVertex();
        duplicateAtTheAbsorbedVertex();
        fullTexts();
        Checks.end("TextBoundsTest");
    }

    private static void bufferHolds600Bytes() {
        Checks.sentence("The setup text is read from an input buffer of at most 600 bytes.");
        RandomWalks x = new RandomWalks();
        for (int length = 20; length <= 600; length += 20) {
            Checks.same("append up to " + length, appendSpaces(x), length);
        }
        Checks.same("append to 600 bytes", appendSpaces(x), -1);
        Checks.noArgument("load(601)", () -> x.load(601));
        Checks.same("load(600)", x.load(600), SYNTAX);
        Checks.same("errorOffset", x.errorOffset(), 600);
        RandomWalks full = new RandomWalks();
        Checks.append(full, "walk 2;" + " ".repeat(581) + "edge 0 1 7 ;");
        Checks.same("load of a text that ends with the 600th byte", full.load(600), 1);
        Checks.same("weight", full.edge(0, 2), 7);
    }

    private static int appendSpaces(RandomWalks x) {
        return x.append(0x20202020, 0x20202020, 0x20202020, 0x20202020, 0x20202020);
    }

    private static void refusedAppendChangesNothing() {
        Checks.sentence("-1 if it would exceed 600 bytes, and the buffer is unchanged then.");
        RandomWalks x = new RandomWalks();
        Checks.append(x, "walk 2;" + " ".repeat(582) + "absorb 1  ;");
        for (int k = 0; k < 3; k++) {
            Checks.same("append to a full buffer", x.append(0x24242424, -1, 0, 1, 2), -1);
        }
        Checks.noArgument("load(620)", () -> x.load(620));
        Checks.same("load(600)", x.load(600), 0);
        Checks.same("absorbing", x.absorbing(), 2);
        Checks.same("append to the emptied buffer", appendSpaces(x), 20);
    }

    private static void bytesComeMostSignificantFirst() {
        Checks.sentence("Appends 20 bytes to the input buffer: the 4 bytes of each argument, the most significant byte first.");
        RandomWalks x = new RandomWalks();
        // "walk" "4;ed" "ge 3" " 2 7" ";   "
        Checks.same("append", x.append(0x77616c6b, 0x343b6564, 0x67652033, 0x20322037, 0x3b202020), 20);
        Checks.same("load", x.load(20), 1);
        Checks.same("size", x.size(), 4);
        Checks.same("low", x.edge(0, 0), 2);
        Checks.same("high", x.edge(0, 1), 3);
        Checks.same("weight", x.edge(0, 2), 7);
        // Bytes above 127 are no digits, letters or signs, whatever is left if the highest bit is dropped.
        int[] places = {0xf7616c6b, 0x77e16c6b, 0x7761ec6b, 0x77616ceb};
        for (int word : places) {
            x.append(word, 0x343b2020, 0, 0, 0);
            Checks.same("load of a byte above 127", x.load(6), SYNTAX);
        }
        x.append(0x77616c6b, 0xb43bbb20, 0, 0, 0);
        Checks.same("load of a digit with the highest bit", x.load(6), SYNTAX);
        Checks.same("errorOffset", x.errorOffset(), 4);
        x.append(0x77616c6b, 0x34bb2020, 0, 0, 0);
        Checks.same("load of a semicolon with the highest bit", x.load(6), SYNTAX);
        Checks.same("errorOffset", x.errorOffset(), 5);
    }

    private static void loadReadsTheFirstBytes() {
        Checks.sentence("Reads the first bytes of the input buffer as a setup text and replaces all data by what it describes.");
        String text = "walk 3;edge 0 1 4;absorb 2;";
        for (int length = 0; length <= text.length(); length++) {
            RandomWalks x = new RandomWalks();
            Checks.append(x, text);
            int got = x.load(length);
            Checks.same("the first " + length + " bytes", got, length == 7 ? 0 : length == 18 || length == 27 ? 1 : SYNTAX);
            Checks.same("absorbing after " + length, x.absorbing(), length == 27 ? 4 : 0);
        }
        RandomWalks x = new RandomWalks();
        Checks.append(x, "walk 22;");
        Checks.same("a number cut off", x.load(6), SYNTAX);
        Checks.same("errorOffset", x.errorOffset(), 6);
    }

    private static void loadEmptiesTheBuffer() {
        Checks.sentence("The input buffer is empty afterwards, also if the text has an error.");
        String[] texts = {"walk 2;edge 0 1 1;absorb 0;", "walk 2;$", "walk 7;", "walk 2;edge 0 0 1;", "walk 2;cost(((((1", ""};
        for (String text : texts) {
            RandomWalks x = new RandomWalks();
            Checks.append(x, text);
            appendSpaces(x);
            x.load(text.length());
            Checks.noArgument("load(1) after '" + text + "'", () -> x.load(1));
            Checks.same("append after '" + text + "'", appendSpaces(x), 20);
            Checks.same("load(20) after '" + text + "'", x.load(20), SYNTAX);
            Checks.same("errorOffset after '" + text + "'", x.errorOffset(), 20);
        }
    }

    private static void loadReplacesAllData() {
        Checks.sentence("Reads the first bytes of the input buffer as a setup text and replaces all data by what it describes.");
        RandomWalks x = Checks.loaded("walk 6;edge 0 1 9;edge 4 5 9;absorb 1;absorb 5;join 0 1;join 4 5;cost 9;");
        Checks.same("load", Checks.load(x, "walk 3;edge 1 2 4;"), 1);
        Checks.same("size", x.size(), 3);
        Checks.same("edgeCount", x.edgeCount(), 1);
        Checks.same("low", x.edge(0, 0), 1);
        Checks.same("weight", x.edge(0, 2), 4);
        Checks.same("cost", x.edge(0, 3), 1);
        Checks.same("degree(0)", x.degree(0), 0);
        Checks.same("absorbing", x.absorbing(), 0);
        Checks.same("blockCount", x.blockCount(), 3);
        Checks.same("blockOf(1)", x.blockOf(1), 1);
        Checks.noIndex("degree(3)", () -> x.degree(3));
        Checks.same("load of more vertices", Checks.load(x, "walk 6;"), 0);
        Checks.same("degree(5)", x.degree(5), 0);
        Checks.same("blockCount", x.blockCount(), 6);
    }

    private static void errorLeavesTheData() {
        Checks.sentence("An error leaves all other data unchanged.");
        RandomWalks x = Checks.loaded("walk 3;edge 0 1 2;edge 1 2 3;absorb 2;join 0 2;cost 7;");
        long sum = x.checksum();
        String all = "walk 6;edge 0 1 9;edge 0 3 1;absorb 1;join 1 2;cost 5;";
        String[] errors = {"x", "edge 0 1 1;", "edge 0 9 1;", "absorb 1;", "absorb 6;", "cost 1;", "join 0 6;", "edge 1 4 9"};
        for (String error : errors) {
            Checks.yes("an error in " + error, () -> Checks.load(x, all + error) < 0);
            Checks.same("checksum after " + error, x.checksum(), sum);
            Checks.same("cost after " + error, x.edge(0, 3), 7);
            Checks.same("reachable after " + error, x.reachable(0), 7);
        }
        Checks.yes("too deep", () -> Checks.load(x, "walk 2;cost(((((1)))));") == DEEP);
        Checks.same("checksum", x.checksum(), sum);
        Checks.same("cost", x.edge(0, 3), 7);
        Checks.same("undo of the one change", x.undo(), 0);
    }

    private static void emptyTextIsASyntaxError() {
        Checks.sentence("An empty text has a SYNTAX_ERROR.");
        RandomWalks x = new RandomWalks();
        Checks.same("load(0) of an empty buffer", x.load(0), SYNTAX);
        Checks.same("errorOffset", x.errorOffset(), 0);
        Checks.append(x, "walk 2;");
        Checks.same("load(0) of a buffer with a text", x.load(0), SYNTAX);
        Checks.same("errorOffset", x.errorOffset(), 0);
        Checks.noArgument("load(7) of the emptied buffer", () -> x.load(7));
        Checks.same("load(0) again", x.load(0), SYNTAX);
        Checks.same("size", x.size(), 0);
    }

    private static void loadRefusesLengths() {
        Checks.sentence("if length is negative or greater than the length of the buffer; the buffer is unchanged then");
        RandomWalks x = new RandomWalks();
        Checks.noArgument("load(1) of an empty buffer", () -> x.load(1));
        Checks.append(x, "walk 2;");
        Checks.noArgumentOutside("load", 0, 20, x::load);
        Checks.append(x, " ".repeat(8) + "absorb 1;");
        Checks.noArgumentOutside("load", 0, 40, x::load);
        Checks.same("append", appendSpaces(x), 60);
        RandomWalks spaces = new RandomWalks();
        Checks.append(spaces, "walk 2 ;absorb 1;   ");
        Checks.noArgument("load(21)", () -> spaces.load(21));
        Checks.same("load of the whole buffer", spaces.load(20), 0);
        Checks.same("absorbing", spaces.absorbing(), 2);
    }

    private static void errorOffsetOfTheLatestLoad() {
        Checks.sentence("-1 if it found none or if there was no such call.");
        RandomWalks x = new RandomWalks();
        Checks.same("no call", x.errorOffset(), -1);
        Checks.noArgument("load(1)", () -> x.load(1));
        Checks.same("a call that threw", x.errorOffset(), -1);
        x.load(0);
        Checks.same("an error", x.errorOffset(), 0);
        Checks.load(x, "walk 2;absorb 2;");
        Checks.same("another error", x.errorOffset(), 14);
        Checks.noArgument("load(1)", () -> x.load(1));
        Checks.same("a call that threw after an error", x.errorOffset(), 14);
        appendSpaces(x);
        Checks.same("append after an error", x.errorOffset(), 14);
        x.refine();
        x.undo();
        Checks.same("changes after an error", x.errorOffset(), 14);
        x.load(0);
        Checks.load(x, "walk 2;");
        Checks.same("no error", x.errorOffset(), -1);
        Checks.noArgument("load(-1)", () -> x.load(-1));
        Checks.same("a call that threw after none", x.errorOffset(), -1);
    }

    private static void numbersAreOfAnyLength() {
        Checks.sentence("A number is a run of decimal digits, of any length (leading zeros do not matter)");
        RandomWalks x = Checks.loaded("walk " + "0".repeat(200) + "4;edge 000 01 0000000000009;absorb 00000000003;"
                + "join 00 0002;cost 0000000000000000000000012;");
        Checks.same("size", x.size(), 4);
        Checks.same("weight", x.edge(0, 2), 9);
        Checks.same("absorbing", x.absorbing(), 8);
        Checks.same("blockOf(2)", x.blockOf(2), 0);
        Checks.same("cost", x.edge(0, 3), 12);
        Checks.error("walk " + "0".repeat(590) + "1;", RANGE, 5);
        // Each of these is 3 for who keeps 16, 32 or 64 bits of it, or the digits at one end.
        for (String number : List.of("65539", "4294967299", "18446744073709551619", "30", "3000000000000000", "13")) {
            Checks.error("walk " + number + ";", RANGE, 5);
            Checks.error("walk 4;absorb 0" + number + ";", RANGE, 14);
            Checks.error("walk 4;edge 0 3 0" + number + ";", RANGE, 16);
        }
        Checks.error("walk 2;cost 4294967299;", RANGE, 12);
        Checks.error("walk 2;cost 18446744073709551619;", RANGE, 12);
    }

    private static void wordsAreLettersFromAToZ() {
        Checks.sentence("a word is a run of the letters a to z.");
        Checks.error("walk`2;", SYNTAX, 4);
        Checks.error("walk{2;", SYNTAX, 4);
        Checks.error("walka2;", SYNTAX, 0);
        Checks.error("walkz2;", SYNTAX, 0);
        Checks.error("WALK 2;", SYNTAX, 0);
        Checks.error("walK 2;", SYNTAX, 0);
        Checks.error("walk 2;Absorb 1;", SYNTAX, 7);
        Checks.error("walk 2;absorb_1;", SYNTAX, 13);
    }

    /** Each word of the grammar with a letter changed, left out or put twice. */
    private static void wordsAreSpelledExactly() {
        Checks.sentence("SYNTAX_ERROR: a token or byte that the grammar does not allow here, at its first byte");
        String[][] texts = {{"", "walk", " 3;"}, {"walk 3;", "edge", " 0 1 1;"}, {"walk 3;", "absorb", " 0;"},
            {"walk 3;", "join", " 0 1;"}, {"walk 3;", "cost", " 1;"}, {"walk 3;cost ", "weight", ";"},
            {"walk 3;cost ", "from", ";"}, {"walk 3;cost ", "to", ";"}};
        for (String[] text : texts) {
            String word = text[1];
            Checks.loaded(text[0] + word + text[2]);
            for (int k = 0; k < word.length(); k++) {
                String left = word.substring(0, k);
                char letter = word.charAt(k);
                String right = word.substring(k + 1);
                for (String other : List.of("" + (char) (letter + 1), "" + (char) (letter - 1), "", "" + letter + letter)) {
                    Checks.error(text[0] + left + other + right + text[2], SYNTAX, text[0].length());
                }
            }
        }
    }

    private static void wordsInOtherPlaces() {
        Checks.sentence("SYNTAX_ERROR: a token or byte that the grammar does not allow here, at its first byte");
        for (String word : List.of("walk", "edge", "absorb", "join", "cost", "weight", "from", "to", "sum")) {
            boolean isStatement = List.of("edge", "absorb", "join", "cost").contains(word);
            boolean isFactor = List.of("weight", "from", "to").contains(word);
            if (!word.equals("walk")) {
                Checks.error(word + " 3;", SYNTAX, 0);
            }
            Checks.error("walk 3;" + word + ";", SYNTAX, isStatement ? 7 + word.length() : 7);
            Checks.error("walk 3;cost " + word + "+;", SYNTAX, isFactor ? 13 + word.length() : 12);
            Checks.error("walk " + word + ";", SYNTAX, 5);
            Checks.error("walk 3 " + word + ";", SYNTAX, 7);
            Checks.error("walk 3;edge 0 " + word + " 1;", SYNTAX, 14);
            Checks.error("walk 3;absorb 0 " + word + ";", SYNTAX, 16);
            Checks.error("walk 3;cost 1 " + word + ";", SYNTAX, 14);
        }
    }

    private static void runsAreAsLongAsPossible() {
        Checks.sentence("Each run is as long as possible.");
        Checks.error("walk 22;", RANGE, 5);
        Checks.error("walk 3;edge 02 1;", SYNTAX, 16);
        Checks.error("walk 3;edge 0 12;", RANGE, 14);
        Checks.error("walk 3;edge 0 1 11;", RANGE, 16);
        Checks.error("walkwalk 3;", SYNTAX, 0);
        Checks.error("wal k 3;", SYNTAX, 0);
        Checks.error("walk 3;costto;", SYNTAX, 7);
        Checks.error("walk 3;cost fromto;", SYNTAX, 12);
        Checks.error("walk 3;cost weights;", SYNTAX, 12);
        Checks.error("walk 3;cost weigh;", SYNTAX, 12);
        Checks.error("walk 3;cost t;", SYNTAX, 12);
        Checks.error("walk 3;cost 1 1;", SYNTAX, 14);
        Checks.same("a longer number", Checks.loaded("walk 3;edge 0 1 1;cost 11;").edge(0, 3), 11);
    }

    private static void spacesAroundTokens() {
        Checks.sentence("Spaces (byte 32) may precede any token and may follow the last one");
        String[] tokens = {"walk", "3", ";", "edge", "2", "0", "5", ";", "absorb", "1", ";", "join", "0", "2", ";",
            "cost", "(", "weight", "+", "2", ")", "*", "to", "-", "from", "/", "2", ";", ""};
        for (int wide = 0; wide <= tokens.length; wide++) {
            StringBuilder text = new StringBuilder();
            for (int k = 0; k < tokens.length; k++) {
                text.append(wide == k || wide == tokens.length ? "   " : k > 0 && isNumber(tokens[k - 1]) ? " " : "");
                text.append(tokens[k]);
            }
            RandomWalks x = Checks.loaded(text.toString());
            Checks.same("weight of " + text, x.edge(0, 2), 5);
            Checks.same("cost of " + text, x.edge(0, 3), 14);
            Checks.same("cost back of " + text, x.edge(0, 4), 0);
            Checks.same("absorbing of " + text, x.absorbing(), 2);
            Checks.same("blocks of " + text, x.blockOf(2), 0);
        }
    }

    private static boolean isNumber(String token) {
        return token.charAt(0) >= '0' && token.charAt(0) <= '9';
    }

    private static void noSpaceBetweenWordAndNumber() {
        Checks.sentence("a word and a number side by side need none between them.");
        RandomWalks x = Checks.loaded("walk3;edge0 1 2;absorb1;join0 2;cost7;");
        Checks.same("size", x.size(), 3);
        Checks.same("cost", x.edge(0, 3), 7);
        Checks.same("absorbing", x.absorbing(), 2);
        Checks.same("blockCount", x.blockCount(), 2);
        // Two tokens as well, though the grammar has no place for them.
        Checks.error("walk 3;cost 7to;", SYNTAX, 13);
        Checks.error("walk 3;cost to7;", SYNTAX, 14);
        Checks.error("walk 3;absorb1absorb2;", SYNTAX, 14);
    }

    private static void noOtherByteSeparates() {
        Checks.sentence("No other byte separates tokens.");
        for (int b = 0; b < 256; b++) {
            char c = (char) b;
            boolean isLetter = b >= 'a' && b <= 'z';
            boolean isDigit = b >= '0' && b <= '9';
            if (b == ' ' || isDigit) {
                continue;
            }
            Checks.error("walk" + c + "2;", SYNTAX, isLetter ? 0 : 4);
            Checks.error("walk 3;edge 0" + c + "1 1;", SYNTAX, 13);
            Checks.error("walk 2;" + c, SYNTAX, 7);
            Checks.error(c + "walk 2;", SYNTAX, 0);
            if (c != ';') {
                Checks.error("walk 2" + c, SYNTAX, 6);
            }
        }
    }

    private static void verticesOfWalk() {
        Checks.sentence("There are n vertices (2 to 6), numbered from 0");
        for (int n = 0; n <= 12; n++) {
            RandomWalks x = new RandomWalks();
            boolean isGood = n >= 2 && n <= 6;
            Checks.same("walk " + n, Checks.load(x, "walk " + n + ";"), isGood ? 0 : RANGE);
            Checks.same("errorOffset of walk " + n, x.errorOffset(), isGood ? -1 : 5);
            Checks.same("size of walk " + n, x.size(), isGood ? n : 0);
        }
    }

    private static void verticesOfEdges() {
        Checks.sentence("Those of edge are two different vertices, in whatever order, and the weight");
        for (int n = 2; n <= 6; n++) {
            for (int a = 0; a <= n; a++) {
                for (int b = 0; b <= n; b++) {
                    String text = "walk " + n + ";edge " + a + " " + b + " 1;";
                    if (a == n) {
                        Checks.error(text, RANGE, 12);
                    } else if (b == n) {
                        Checks.error(text, RANGE, 14);
                    } else if (a == b) {
                        Checks.error(text, DUPLICATE, 14);
                    } else {
                        RandomWalks x = Checks.loaded(text);
                        Checks.same("the smaller end: " + text, x.edge(0, 0), Math.min(a, b));
                        Checks.same("the other end: " + text, x.edge(0, 1), Math.max(a, b));
                    }
                }
            }
        }
    }

    private static void weightsOfEdges() {
        Checks.sentence("An edge has two different ends and a weight (1 to 9)");
        for (int weight = 0; weight <= 11; weight++) {
            String text = "walk 2;edge 0 1 " + weight + ";";
            if (weight < 1 || weight > 9) {
                Checks.error(text, RANGE, 16);
            } else {
                Checks.same("weight " + weight, Checks.loaded(text).edge(0, 2), weight);
            }
        }
    }

    private static void edgesInTheOrderOfTheText() {
        Checks.sentence("edges have their indexes in the order of the text.");
        StringBuilder text = new StringBuilder("walk6;");
        for (int k = 14; k >= 0; k--) {
            text.append("edge").append(low(k)).append(' ').append(high(k)).append(' ').append(k % 9 + 1).append(';');
        }
        RandomWalks x = Checks.loaded(text.toString());
        Checks.same("edgeCount", x.edgeCount(), 15);
        for (int e = 0; e < 15; e++) {
            Checks.same("low of " + e, x.edge(e, 0), low(14 - e));
            Checks.same("high of " + e, x.edge(e, 1), high(14 - e));
            Checks.same("weight of " + e, x.edge(e, 2), (14 - e) % 9 + 1);
        }
        Checks.noIndexOutside("edge", 15, e -> x.edge(e, 0));
    }

    /** The smaller end of the edge with that number, in the order 01, 02, 12, 03 and so on. */
    private static int low(int number) {
        return number - high(number) * (high(number) - 1) / 2;
    }

    private static int high(int number) {
        int high = 1;
        while (high * (high + 1) / 2 <= number) {
            high++;
        }
        return high;
    }

    private static void vertexOfAbsorb() {
        Checks.sentence("That of absorb is a vertex that is absorbing.");
        for (int n = 2; n <= 6; n++) {
            for (int v = 0; v <= n + 1; v++) {
                String text = "walk " + n + ";absorb " + v + ";";
                if (v >= n) {
                    Checks.error(text, RANGE, 14);
                } else {
                    Checks.same(text, Checks.loaded(text).absorbing(), 1 << v);
                }
            }
        }
        Checks.same("all", Checks.loaded("walk 6;absorb 5;absorb 0;absorb 1;absorb 4;absorb 3;absorb 2;").absorbing(), 63);
    }

    private static void verticesOfJoin() {
        Checks.sentence("Those of join are two vertices whose blocks become one block (if they are not the same already)"
                + "; at first, each vertex is a block of its own.");
        Checks.same("at first", Checks.loaded("walk 6;").blockCount(), 6);
        Checks.error("walk 6;join 6 0;", RANGE, 12);
        Checks.error("walk 6;join 0 6;", RANGE, 14);
        Checks.error("walk 2;join 1 2;", RANGE, 14);
        Checks.same("the same vertex", Checks.loaded("walk 3;join 2 2;").blockCount(), 3);
        Checks.same("again", Checks.loaded("walk 3;join 2 1;join 1 2;join 2 1;").blockCount(), 2);
        RandomWalks x = Checks.loaded("walk 6;join 5 1;join 3 2;join 2 5;");
        int[] due = {0, 1, 1, 1, 2, 1};
        for (int v = 0; v < 6; v++) {
            Checks.same("blockOf(" + v + ")", x.blockOf(v), due[v]);
        }
    }

    private static void numbersAsFactors() {
        Checks.sentence("A number as a factor is 0 to 9999.");
        Checks.cost("0", 0, 0);
        Checks.cost("9999-9950", 49, 49);
        Checks.cost("9999/101", 99, 99);
        Checks.error("walk 2;cost 10000;", RANGE, 12);
        Checks.error("walk 2;cost 1+(10000);", RANGE, 15);
        Checks.error("walk 2;cost 9999*10000;", RANGE, 17);
        Checks.error("walk 2;cost -1;", SYNTAX, 12);
    }

    private static void parenthesesNestFourDeep() {
        Checks.sentence("Parentheses nest at most 4 deep.");
        Checks.cost("(7)", 7, 7);
        Checks.cost("((((7))))", 7, 7);
        Checks.cost("((((7))))+((((8))))", 15, 15);
        Checks.cost("((((7))+((8)))+(9))", 24, 24);
        Checks.cost("(((1)+((2)))+((3)+(4)))*(to)", 10, 0);
        Checks.cost("2+(((1)))+(((2)))+(((3)))", 8, 8);
        // As many operators wait for their right sides as can.
        Checks.cost("1+2*(3-4/(5+6*(7-8*(1+2*weight))))", 7, 7);
        Checks.cost("99-1*(1+1*(1+1*(1+1*(1+1*1))))", 94, 94);
        Checks.sentence("TOO_DEEP: an opening parenthesis inside 4 others, at that parenthesis.");
        Checks.error("walk 2;cost (((((7)))));", DEEP, 16);
        Checks.error("walk 2;cost ((((7))))+(((((8)))));", DEEP, 26);
        Checks.error("walk 2;cost ((((7+ (8)))));", DEEP, 19);
        Checks.error("walk 2;cost ((((7)*(8)+(((9))))));", DEEP, 24);
        Checks.error("walk 2;cost ((((  (", DEEP, 18);
        Checks.error("walk 2;cost ((((((((", DEEP, 16);
    }

    private static void costMayOccurOnce() {
        Checks.sentence("The statement cost may occur once.");
        Checks.same("once", Checks.loaded("walk 2;cost 8;edge 0 1 1;").edge(0, 3), 8);
        Checks.same("never", Checks.loaded("walk 2;edge 0 1 9;").edge(0, 3), 1);
        Checks.sentence("a second cost, at its first letter.");
        Checks.error("walk 2;cost 8;cost 8;", SYNTAX, 14);
        Checks.error("walk 2;cost 8;  cost", SYNTAX, 16);
        Checks.error("walk 2;cost 8;join 0 1;cost 10000;", SYNTAX, 23);
        Checks.error("walk 2;cost cost;", SYNTAX, 12);
    }

    private static void smallestOffsetCounts() {
        Checks.sentence("The first error in the text is the one with the smallest offset.");
        Checks.error("walk 7;edge 0 0 1;$", RANGE, 5);
        Checks.error("walk 3;edge 0 0 99;$", DUPLICATE, 14);
        Checks.error("walk 3;edge 0 1 0;edge 0 1 1;", RANGE, 16);
        Checks.error("walk 3;absorb 9 $;", RANGE, 14);
        Checks.error("walk 3;absorb 1 $;absorb 1;", SYNTAX, 16);
        Checks.error("walk 3;cost ((((1+(10000)))));", DEEP, 18);
        Checks.error("walk 3;cost ((((10000+(1)))));", RANGE, 16);
        Checks.error("walk 3;cost 10000+;", RANGE, 12);
        Checks.error("walk 3;cost 1+;cost 2;", SYNTAX, 14);
        Checks.error("walk 3;join 0 4;join 4 0;", RANGE, 14);
        Checks.error("walk 3;edge 3 3 1;", RANGE, 12);
        Checks.error("walk 3;edge 1 1", DUPLICATE, 14);
        Checks.error("walk 3;absorb 0;absorb 0", DUPLICATE, 23);
        Checks.error("walk 7", RANGE, 5);
    }

    private static void sameOffsetFirstKindCounts() {
        Checks.sentence("If several kinds of error have the same offset, the first one in this list counts");
        Checks.error("walk 3;cost ((((1(2)))));", SYNTAX, 17);
        Checks.error("walk 3;cost ((((to (2)))));", SYNTAX, 19);
        Checks.error("walk 3;cost 1 10000;", SYNTAX, 14);
        Checks.error("walk 3;edge 0 1 1 99;", SYNTAX, 18);
        Checks.error("walk 3 9;", SYNTAX, 7);
        Checks.error("99999;", SYNTAX, 0);
        Checks.error("walk 3;join 0 1 9;", SYNTAX, 16);
        Checks.error("walk 3;absorb 1 1;", SYNTAX, 16);
    }

    private static void syntaxErrorAtItsFirstByte() {
        Checks.sentence("SYNTAX_ERROR: a token or byte that the grammar does not allow here, at its first byte");
        Checks.error("walk walk;", SYNTAX, 5);
        Checks.error("walk 3 edge 0 1 1;", SYNTAX, 7);
        Checks.error("walk 3;  ;", SYNTAX, 9);
        Checks.error("walk 3;edge;", SYNTAX, 11);
        Checks.error("walk 3;edge 0;", SYNTAX, 13);
        Checks.error("walk 3;edge 0 1;", SYNTAX, 15);
        Checks.error("walk 3;edge 0 to 1;", SYNTAX, 14);
        Checks.error("walk 3;edge 0,1,1;", SYNTAX, 13);
        Checks.error("walk 3;absorb  absorb;", SYNTAX, 15);
        Checks.error("walk 3;join 0  ;", SYNTAX, 15);
        Checks.error("walk 3;joins 0 1;", SYNTAX, 7);
        Checks.error("walk 3;  sum 1;", SYNTAX, 9);
        Checks.error("walk 3;cost 1+*2;", SYNTAX, 14);
        Checks.error("walk 3;cost 1+  edge;", SYNTAX, 16);
        Checks.error("walk 3;cost 1  edge 0 1 1;", SYNTAX, 15);
        Checks.error("walk 3;cost (1+2;", SYNTAX, 16);
        Checks.error("walk 3;cost (1+);", SYNTAX, 15);
        Checks.error("walk 3;cost (1+2));", SYNTAX, 17);
        Checks.error("walk 3;cost );", SYNTAX, 12);
        Checks.error("walk 3;cost (1)(2);", SYNTAX, 15);
        Checks.error("walk 3;cost (1)2;", SYNTAX, 15);
        Checks.error("walk 3;cost 1--2;", SYNTAX, 14);
        Checks.error("walk 3;cost 2*/2;", SYNTAX, 14);
    }

    /** Each beginning of a text that does not end a statement. */
    private static void endOfTheTextAtItsLength() {
        Checks.sentence("the end of the text, at its length, if the text ends too early");
        String text = "walk 3;edge 0 1 9;absorb 2;join 0 1;cost (weight+from*2)/(to-3);";
        List<String> words = List.of("walk", "edge", "absorb", "join", "cost", "weight", "from", "to");
        for (int length = 0; length < text.length(); length++) {
            String part = text.substring(0, length);
            int start = length;
            while (start > 0 && Character.isLetter(part.charAt(start - 1))) {
                start--;
            }
            if (part.endsWith(";")) {
                Checks.loaded(part);
            } else if (start == length || words.contains(part.substring(start))) {
                Checks.error(part, SYNTAX, length);
                Checks.error(part + "   ", SYNTAX, length + 3);
            } else {
                // What is left of the word is not a word of the grammar.
                Checks.error(part, SYNTAX, start);
            }
        }
    }

    private static void rangeErrorAtItsFirstDigit() {
        Checks.sentence("OUT_OF_RANGE: a number outside its range, at its first digit.");
        Checks.error("walk   007;", RANGE, 7);
        Checks.error("walk001;", RANGE, 4);
        Checks.error("walk 3;absorb  0003;", RANGE, 15);
        Checks.error("walk 3;edge  03 1 1;", RANGE, 13);
        Checks.error("walk 3;edge 1  03 1;", RANGE, 15);
        Checks.error("walk 3;edge 1 0  00;", RANGE, 17);
        Checks.error("walk 3;join  3 0;", RANGE, 13);
        Checks.error("walk 3;cost(0010000);", RANGE, 12);
    }

    private static void duplicateAtTheSecondVertex() {
        Checks.sentence("DUPLICATE: the second vertex of an edge if it is the same as the first one, "
                + "or if there is an edge between them already");
        Checks.error("walk 3;edge 2 2 1;", DUPLICATE, 14);
        Checks.error("walk 3;edge 2  002 1;", DUPLICATE, 15);
        Checks.error("walk 3;edge 1 2 1;edge 1 2 1;", DUPLICATE, 25);
        Checks.error("walk 3;edge 1 2 1;edge 2 1 9;", DUPLICATE, 25);
        Checks.error("walk 3;edge 1 2 1;edge 0 1 1;edge 0 2 1;edge 2  1 10;", DUPLICATE, 48);
        Checks.error("walk 3;edge 1 2 1;edge 1 2", DUPLICATE, 25);
    }

    private static void duplicateAtTheAbsorbedVertex() {
        Checks.sentence("the vertex of an absorb statement if it is absorbing already.");
        Checks.error("walk 3;absorb 0;absorb 0;", DUPLICATE, 23);
        Checks.error("walk 3;absorb 2;absorb 0;absorb 1;absorb  02;", DUPLICATE, 42);
        Checks.error("walk 6;absorb 5;absorb 5", DUPLICATE, 23);
    }

    /** As many tokens, operators and statements as 600 bytes hold. */
    private static void fullTexts() {
        Checks.sentence("The setup text is read from an input buffer of at most 600 bytes.");
        String start = "walk2;edge0 1 5;cost";
        Checks.same("a sum", Checks.loaded(start + "9+" + "1-1+".repeat(144) + "3;").edge(0, 3), 12);
        Checks.same("a term", Checks.loaded(start + "8" + "*3/3".repeat(144) + "+0;").edge(0, 3), 8);
        Checks.same("parentheses", Checks.loaded(start + "0" + "+((((1))))".repeat(57) + ";").edge(0, 3), 57);
        Checks.same("words", Checks.loaded(start + " to" + "+to".repeat(98) + ";").edge(0, 3), 99);
        Checks.same("statements", Checks.loaded("walk2;" + "join0 1;".repeat(74)).blockCount(), 1);
        Checks.error("walk2;" + ";".repeat(594), SYNTAX, 6);
        Checks.error("(".repeat(600), SYNTAX, 0);
        Checks.error(start + "(".repeat(580), DEEP, 24);
        Checks.error(start + "1" + "+1".repeat(289) + "+", SYNTAX, 600);
        Checks.error("a".repeat(600), SYNTAX, 0);
        Checks.error("walk" + "9".repeat(596), RANGE, 4);
    }
}

import java.util.Arrays;

/**
 * Random walks on a weighted graph, with exact fractions for their mean times, costs and probabilities.
 *
 * <p>The answers are computed anew from the graph at each call, in rows that the constructor makes once,
 * since all that a run of calls makes is counted together.
 */
public final class RandomWalks {
    public static final int SYNTAX_ERROR = -2;
    public static final int OUT_OF_RANGE = -3;
    public static final int DUPLICATE = -4;
    public static final int TOO_DEEP = -5;

    private static final int LEAST_VERTICES = 2;
    private static final int MOST_VERTICES = 6;
    private static final int MOST_EDGES = 15;
    private static final int MOST_WEIGHT = 9;
    private static final int MOST_BYTES = 600;
    private static final int MOST_UNDONE = 8;
    private static final int MOST_COST = 99;
    private static final int MOST_NUMBER = 9999;
    private static final int MOST_NESTED = 4;
    private static final int MOST_STEPS_AFTER = 100;
    private static final int MOST_STEPS_WALKED = 1000;

    /** The cost expression of a text without a cost statement. */
    private static final int[] COST_ONE = {1};

    private int errorAt = -1;
    private final Graph graph = new Graph();
    private final History history = new History();
    private final Reader reader = new Reader();
    private final Costs costs = new Costs();
    private final Partition partition = new Partition();
    private final Equations equations = new Equations();
    private final Fraction answer = new Fraction();
    private final Fraction wayBack = new Fraction();
    private final long[] gains = new long[MOST_VERTICES];
    private final Stroll stroll = new Stroll();
    private final Spread spread = new Spread();

    public RandomWalks() {
    }

    public int append(int w0, int w1, int w2, int w3, int w4) {
        Tokens input = reader.tokens;
        if (input.held > MOST_BYTES - 20) {
            return -1;
        }
        input.hold(w0);
        input.hold(w1);
        input.hold(w2);
        input.hold(w3);
        input.hold(w4);
        return input.held;
    }

    public int load(int length) throws IllegalArgumentException {
        Tokens input = reader.tokens;
        if (length < 0 || length > input.held) {
            throw new IllegalArgumentException("the buffer does not hold as many bytes");
        }
        input.scan(length);
        input.held = 0;
        if (!reader.readSetup()) {
            errorAt = reader.errorAt;
            return reader.error;
        }
        errorAt = -1;
        history.keep(graph);
        graph.copyFrom(reader.draft);
        return graph.edges;
    }

    public int errorOffset() {
        return errorAt;
    }

    public int size() {
        return graph.vertices;
    }

    public int edgeCount() {
        return graph.edges;
    }

    public int edge(int edge, int what) throws IndexOutOfBoundsException, IllegalArgumentException {
        requireEdge(edge);
        if (what < 0 || what > 4) {
            throw new IllegalArgumentException("what is not 0 to 4");
        }
        int low = graph.low[edge];
        int high = graph.high[edge];
        switch (what) {
            case 0:
                return low;
            case 1:
                return high;
            case 2:
                return graph.weightBetween(low, high);
            case 3:
                return costs.costOfStep(graph, low, high);
            default:
                return costs.costOfStep(graph, high, low);
        }
    }

    public int degree(int vertex) throws IndexOutOfBoundsException {
        requireVertex(vertex);
        return graph.sumOfWeights(vertex);
    }

    public int reachable(int vertex) throws IndexOutOfBoundsException {
        requireVertex(vertex);
        return graph.component(vertex);
    }

    public int transition(int from, int to, boolean isBelow) throws IndexOutOfBoundsException {
        requireVertex(from);
        requireVertex(to);
        graph.stepChance(from, to, answer);
        return (int) answer.part(isBelow);
    }

    public long hittingTime(int from, int to, boolean isBelow)
            throws IndexOutOfBoundsException, IllegalStateException {
        requireVertex(from);
        requireVertex(to);
        requireWay(from, to);
        gainSteps();
        equations.meanUntil(graph, from, to, gains, answer);
        return answer.part(isBelow);
    }

    public long hittingCost(int from, int to, boolean isBelow)
            throws IndexOutOfBoundsException, IllegalStateException {
        requireVertex(from);
        requireVertex(to);
        requireWay(from, to);
        gainCosts();
        equations.meanUntil(graph, from, to, gains, answer);
        return answer.part(isBelow);
    }

    public long commuteTime(int a, int b, boolean isBelow)
            throws IndexOutOfBoundsException, IllegalStateException {
        requireVertex(a);
        requireVertex(b);
        requireWay(a, b);
        findCommuteTime(a, b);
        return answer.part(isBelow);
    }

    public long resistance(int a, int b, boolean isBelow)
            throws IndexOutOfBoundsException, IllegalStateException {
        requireVertex(a);
        requireVertex(b);
        requireWay(a, b);
        findCommuteTime(a, b);
        // The sum is 0 for a vertex without edges alone; its resistance to itself is 0 all the same.
        if (a != b) {
            answer.divideBy(sumOfDegrees(graph.component(a)));
        }
        return answer.part(isBelow);
    }

    public long trees() {
        return countTrees();
    }

    public int absorbing() {
        return graph.absorbing;
    }

    public long absorption(int from, int at, boolean isBelow)
            throws IndexOutOfBoundsException, IllegalArgumentException, IllegalStateException {
        requireVertex(from);
        requireVertex(at);
        if (!graph.isAbsorbing(at)) {
            throw new IllegalArgumentException("the vertex is not absorbing");
        }
        requireAbsorbingWay(from);
        findAbsorption(from, at);
        return answer.part(isBelow);
    }

    public long absorptionTime(int from, boolean isBelow)
            throws IndexOutOfBoundsException, IllegalStateException {
        requireVertex(from);
        requireAbsorbingWay(from);
        if (graph.isAbsorbing(from)) {
            answer.put(0, 1);
        } else {
            gainSteps();
            equations.solve(graph, graph.component(from) & ~graph.absorbing, from, gains, answer);
        }
        return answer.part(isBelow);
    }

    public int blockOf(int vertex) throws IndexOutOfBoundsException {
        requireVertex(vertex);
        return graph.block[vertex];
    }

    public int blockCount() {
        return graph.blocks;
    }

    public boolean isLumpable() {
        return partition.firstParted(graph) < 0;
    }

    public int parted() {
        return partition.firstParted(graph);
    }

    public int lumped(int from, int to, boolean isBelow)
            throws IndexOutOfBoundsException, IllegalStateException {
        requireBlock(from);
        requireBlock(to);
        requireLumpable();
        partition.lumpBlocks(graph);
        partition.blockChance(from, to, answer);
        return (int) answer.part(isBelow);
    }

    public long lumpedTime(int from, int to, boolean isBelow)
            throws IndexOutOfBoundsException, IllegalStateException {
        requireBlock(from);
        requireBlock(to);
        requireLumpable();
        partition.lumpBlocks(graph);
        if (!partition.lump.hasWay(from, to)) {
            throw new IllegalStateException("the block cannot be reached");
        }
        equations.meanUntil(partition.lump, from, to, partition.lumpGains, answer);
        return answer.part(isBelow);
    }

    public float after(int from, int to, int steps) throws IndexOutOfBoundsException, IllegalArgumentException {
        requireVertex(from);
        requireVertex(to);
        if (steps < 0 || steps > MOST_STEPS_AFTER) {
            throw new IllegalArgumentException("steps is not 0 to 100");
        }
        return spread.chanceAfter(graph, from, to, steps);
    }

    public int walk(int from, int steps, int seed, int what)
            throws IndexOutOfBoundsException, IllegalArgumentException {
        requireVertex(from);
        if (steps < 0 || steps > MOST_STEPS_WALKED) {
            throw new IllegalArgumentException("steps is not 0 to 1000");
        }
        if (seed < 0) {
            throw new IllegalArgumentException("seed is negative");
        }
        if (what < 0 || what > 3) {
            throw new IllegalArgumentException("what is not 0 to 3");
        }
        costs.fillTable(graph);
        stroll.go(graph, costs, from, steps, seed);
        return stroll.told(what);
    }

    public int setWeight(int edge, int weight) throws IndexOutOfBoundsException, IllegalArgumentException {
        requireEdge(edge);
        requireWeight(weight);
        history.keep(graph);
        int low = graph.low[edge];
        int high = graph.high[edge];
        int previous = graph.weightBetween(low, high);
        graph.putWeight(low, high, weight);
        return previous;
    }

    public int addEdge(int a, int b, int weight)
            throws IndexOutOfBoundsException, IllegalArgumentException, IllegalStateException {
        requireVertex(a);
        requireVertex(b);
        if (a == b) {
            throw new IllegalArgumentException("the ends of an edge are different");
        }
        requireWeight(weight);
        if (graph.weightBetween(a, b) != 0) {
            throw new IllegalStateException("there is an edge between them");
        }
        history.keep(graph);
        graph.putEdge(a, b, weight);
        return graph.edges - 1;
    }

    public int removeEdge(int edge) throws IndexOutOfBoundsException {
        requireEdge(edge);
        history.keep(graph);
        graph.dropEdge(edge);
        return graph.edges;
    }

    public int setAbsorbing(int vertex, boolean isAbsorbing) throws IndexOutOfBoundsException {
        requireVertex(vertex);
        history.keep(graph);
        int bit = 1 << vertex;
        graph.absorbing = isAbsorbing ? graph.absorbing | bit : graph.absorbing & ~bit;
        return graph.absorbing;
    }

    public int join(int a, int b) throws IndexOutOfBoundsException {
        requireVertex(a);
        requireVertex(b);
        history.keep(graph);
        graph.uniteBlocks(a, b);
        return graph.blocks;
    }

    public int separate(int vertex) throws IndexOutOfBoundsException {
        requireVertex(vertex);
        history.keep(graph);
        graph.isolateInBlock(vertex);
        return graph.blocks;
    }

    public int refine() {
        history.keep(graph);
        partition.refineBlocks(graph);
        return graph.blocks;
    }

    public int undo() {
        return history.restore(graph);
    }

    public long checksum() {
        long sum = graph.vertices;
        sum = 31 * sum + graph.absorbing;
        for (int e = 0; e < graph.edges; e++) {
            int low = graph.low[e];
            int high = graph.high[e];
            sum = 31 * sum + low;
            sum = 31 * sum + high;
            sum = 31 * sum + graph.weightBetween(low, high);
        }
        for (int v = 0; v < graph.vertices; v++) {
            sum = 31 * sum + graph.block[v];
        }
        return 31 * sum + countTrees();
    }

    private void requireVertex(int vertex) {
        if (vertex < 0 || vertex >= graph.vertices) {
            throw new IndexOutOfBoundsException("there is no such vertex");
        }
    }

    private void requireEdge(int edge) {
        if (edge < 0 || edge >= graph.edges) {
            throw new IndexOutOfBoundsException("there is no such edge");
        }
    }

    private void requireBlock(int block) {
        if (block < 0 || block >= graph.blocks) {
            throw new IndexOutOfBoundsException("there is no such block");
        }
    }

    private void requireWeight(int weight) {
        if (weight < 1 || weight > MOST_WEIGHT) {
            throw new IllegalArgumentException("the weight is not 1 to 9");
        }
    }

    private void requireWay(int from, int to) {
        if (!graph.hasWay(from, to)) {
            throw new IllegalStateException("the vertex cannot be reached");
        }
    }

    private void requireAbsorbingWay(int from) {
        if ((graph.component(from) & graph.absorbing) == 0) {
            throw new IllegalStateException("no absorbing vertex can be reached");
        }
    }

    private void requireLumpable() {
        if (partition.firstParted(graph) >= 0) {
            throw new IllegalStateException("the blocks cannot be lumped");
        }
    }

    /** Each step counts 1; as the rows of the equations are multiplied by the degrees, so is this. */
    private void gainSteps() {
        for (int v = 0; v < graph.vertices; v++) {
            gains[v] = graph.sumOfWeights(v);
        }
    }

    private void gainCosts() {
        costs.fillTable(graph);
        for (int v = 0; v < graph.vertices; v++) {
            long sum = 0;
            for (int u = 0; u < graph.vertices; u++) {
                sum += (long) graph.weightBetween(v, u) * costs.tabled(v, u);
            }
            gains[v] = sum;
        }
    }

    private void findCommuteTime(int a, int b) {
        gainSteps();
        equations.meanUntil(graph, a, b, gains, answer);
        equations.meanUntil(graph, b, a, gains, wayBack);
        answer.add(wayBack);
    }

    private void findAbsorption(int from, int at) {
        if (graph.isAbsorbing(from)) {
            answer.put(from == at ? 1 : 0, 1);
            return;
        }
        for (int v = 0; v < graph.vertices; v++) {
            gains[v] = graph.weightBetween(v, at);
        }
        equations.solve(graph, graph.component(from) & ~graph.absorbing, from, gains, answer);
    }

    private long sumOfDegrees(int set) {
        long sum = 0;
        for (int v = 0; v < graph.vertices; v++) {
            if ((set >> v & 1) != 0) {
                sum += graph.sumOfWeights(v);
            }
        }
        return sum;
    }

    private long countTrees() {
        if (graph.vertices < LEAST_VERTICES) {
            return 0;
        }
        return equations.treesOf(graph);
    }

    /** A fraction in lowest terms, its denominator greater than 0. */
    private static final class Fraction {
        /** Far more rounds than the algorithm of Euclid needs for any two longs. */
        private static final int MOST_ROUNDS = 1000;

        private long above = 0;
        private long below = 1;

        void put(long newAbove, long newBelow) {
            long common = commonDivisor(newAbove, newBelow);
            if (newBelow > 0 && common > 0) {
                above = newAbove / common;
                below = newBelow / common;
            } else {
                above = 0;
                below = 1;
            }
        }

        /** The numbers stay below 10^18: no denominator exceeds the 76,527,504 trees of the full graph. */
        void add(Fraction other) {
            put(above * other.below + other.above * below, below * other.below);
        }

        void divideBy(long number) {
            put(above, below * number);
        }

        long part(boolean isBelow) {
            return isBelow ? below : above;
        }

        private static long commonDivisor(long a, long b) {
            long larger = Math.abs(a);
            long smaller = Math.abs(b);
            for (int round = 0; round < MOST_ROUNDS && smaller > 0; round++) {
                long rest = larger % smaller;
                larger = smaller;
                smaller = rest;
            }
            return larger;
        }
    }

    /** All that a change can change: the graph, its absorbing vertices, its blocks and the cost expression. */
    private static final class Graph {
        private int vertices = 0;
        private int edges = 0;
        private int absorbing = 0;
        private int blocks = 0;
        private final int[] low = new int[MOST_EDGES];
        private final int[] high = new int[MOST_EDGES];
        /** The weight between any two vertices, 0 if there is no edge. */
        private final int[] weights = new int[MOST_VERTICES * MOST_VERTICES];
        private final int[] block = new int[MOST_VERTICES];
        private final int[] oldBlock = new int[MOST_VERTICES];
        /** The code of the cost expression, for Costs; it is never written into, so graphs share it. */
        private int[] formula = COST_ONE;

        void copyFrom(Graph other) {
            vertices = other.vertices;
            edges = other.edges;
            absorbing = other.absorbing;
            blocks = other.blocks;
            formula = other.formula;
            System.arraycopy(other.low, 0, low, 0, MOST_EDGES);
            System.arraycopy(other.high, 0, high, 0, MOST_EDGES);
            System.arraycopy(other.weights, 0, weights, 0, MOST_VERTICES * MOST_VERTICES);
            System.arraycopy(other.block, 0, block, 0, MOST_VERTICES);
        }

        /** Makes it a graph without edges, in which each vertex is a block of its own. */
        void clear(int newVertices) {
            vertices = Math.max(0, Math.min(MOST_VERTICES, newVertices));
            edges = 0;
            absorbing = 0;
            blocks = vertices;
            formula = COST_ONE;
            Arrays.fill(weights, 0);
            for (int v = 0; v < MOST_VERTICES; v++) {
                block[v] = v;
            }
        }

        int weightBetween(int a, int b) {
            return weights[a * MOST_VERTICES + b];
        }

        void putWeight(int a, int b, int weight) {
            weights[a * MOST_VERTICES + b] = weight;
            weights[b * MOST_VERTICES + a] = weight;
        }

        void putEdge(int a, int b, int weight) {
            if (edges < MOST_EDGES) {
                low[edges] = Math.min(a, b);
                high[edges] = Math.max(a, b);
                edges++;
                putWeight(a, b, weight);
            }
        }

        void dropEdge(int edge) {
            putWeight(low[edge], high[edge], 0);
            edges--;
            for (int e = edge; e < edges; e++) {
                low[e] = low[e + 1];
                high[e] = high[e + 1];
            }
        }

        boolean isAbsorbing(int vertex) {
            return (absorbing >> vertex & 1) != 0;
        }

        int sumOfWeights(int vertex) {
            int sum = 0;
            for (int u = 0; u < vertices; u++) {
                sum += weightBetween(vertex, u);
            }
            return sum;
        }

        /** The set of the vertices that can be reached. */
        int component(int vertex) {
            int set = 1 << vertex;
            // A way without a circle has fewer edges than there are vertices.
            for (int round = 1; round < vertices; round++) {
                for (int v = 0; v < vertices; v++) {
                    if ((set >> v & 1) != 0) {
                        set |= neighbours(v);
                    }
                }
            }
            return set;
        }

        boolean hasWay(int from, int to) {
            return (component(from) >> to & 1) != 0;
        }

        void stepChance(int from, int to, Fraction chance) {
            int sum = sumOfWeights(from);
            if (sum > 0) {
                chance.put(weightBetween(from, to), sum);
            } else {
                chance.put(from == to ? 1 : 0, 1);
            }
        }

        void uniteBlocks(int a, int b) {
            int kept = block[a];
            int given = block[b];
            for (int v = 0; v < vertices; v++) {
                if (block[v] == given) {
                    block[v] = kept;
                }
            }
            numberBlocks();
        }

        void isolateInBlock(int vertex) {
            // There are never that many blocks, so the number is free.
            block[vertex] = MOST_VERTICES;
            numberBlocks();
        }

        /** Numbers the blocks from 0 in the order of their smallest vertices. */
        private void numberBlocks() {
            System.arraycopy(block, 0, oldBlock, 0, MOST_VERTICES);
            blocks = 0;
            for (int v = 0; v < vertices; v++) {
                int first = 0;
                while (first < v && oldBlock[first] != oldBlock[v]) {
                    first++;
                }
                if (first < v) {
                    block[v] = block[first];
                } else {
                    block[v] = blocks;
                    blocks++;
                }
            }
        }

        private int neighbours(int vertex) {
            int set = 0;
            for (int u = 0; u < vertices; u++) {
                if (weightBetween(vertex, u) != 0) {
                    set |= 1 << u;
                }
            }
            return set;
        }
    }

    /** The graphs as they were before the latest changes. */
    private static final class History {
        private final Graph[] kept = new Graph[MOST_UNDONE];
        private int next = 0;
        private int count = 0;

        History() {
            for (int k = 0; k < MOST_UNDONE; k++) {
                kept[k] = new Graph();
            }
        }

        void keep(Graph graph) {
            kept[next].copyFrom(graph);
            next = (next + 1) % MOST_UNDONE;
            count = Math.min(count + 1, MOST_UNDONE);
        }

        /** Answers how many are left, or -1 if there was none. */
        int restore(Graph graph) {
            if (count == 0) {
                return -1;
            }
            next = (next + MOST_UNDONE - 1) % MOST_UNDONE;
            count--;
            graph.copyFrom(kept[next]);
            return count;
        }
    }

    /** The input buffer, and the tokens of the text that was scanned in it last. */
    private static final class Tokens {
        // A sign that stands alone is its own kind (-128 to 127); these kinds lie beyond.
        private static final int END = 256;
        private static final int NUMBER = 257;
        private static final int WALK = 258;
        private static final int EDGE = 259;
        private static final int ABSORB = 260;
        private static final int JOIN = 261;
        private static final int COST = 262;
        private static final int WEIGHT = 263;
        private static final int FROM = 264;
        private static final int TO = 265;
        private static final int UNKNOWN_WORD = 266;

        private final byte[] text = new byte[MOST_BYTES];
        private int held = 0;

        private final int[] kinds = new int[MOST_BYTES + 1];
        private final int[] starts = new int[MOST_BYTES + 1];
        private final int[] values = new int[MOST_BYTES + 1];
        private int count = 0;

        void hold(int word) {
            for (int shift = 24; shift >= 0; shift -= 8) {
                if (held < MOST_BYTES) {
                    text[held] = (byte) (word >> shift);
                    held++;
                }
            }
        }

        /** The last token is always the end of the text. */
        void scan(int wanted) {
            int length = Math.min(wanted, held);
            int at = 0;
            count = 0;
            // Each round takes a byte at least.
            for (int round = 0; round < MOST_BYTES && at < length; round++) {
                if (text[at] == ' ') {
                    at++;
                } else {
                    at = scanToken(at, length);
                }
            }
            put(END, length, 0);
        }

        /** Answers where the token ends. */
        private int scanToken(int start, int length) {
            if (isDigit(text[start])) {
                return scanNumber(start, length);
            }
            if (isLetter(text[start])) {
                return scanWord(start, length);
            }
            put(text[start], start, 0);
            return start + 1;
        }

        private int scanNumber(int start, int length) {
            int value = 0;
            int end = start;
            while (end < length && isDigit(text[end])) {
                // One above the largest range says all about a longer number.
                value = Math.min(MOST_NUMBER + 1, value * 10 + text[end] - '0');
                end++;
            }
            put(NUMBER, start, value);
            return end;
        }

        private int scanWord(int start, int length) {
            int end = start;
            while (end < length && isLetter(text[end])) {
                end++;
            }
            put(kindOfWord(start, end), start, 0);
            return end;
        }

        private int kindOfWord(int start, int end) {
            if (isWord("walk", start, end)) {
                return WALK;
            }
            if (isWord("edge", start, end)) {
                return EDGE;
            }
            if (isWord("absorb", start, end)) {
                return ABSORB;
            }
            if (isWord("join", start, end)) {
                return JOIN;
            }
            if (isWord("cost", start, end)) {
                return COST;
            }
            if (isWord("weight", start, end)) {
                return WEIGHT;
            }
            if (isWord("from", start, end)) {
                return FROM;
            }
            return isWord("to", start, end) ? TO : UNKNOWN_WORD;
        }

        private boolean isWord(String word, int start, int end) {
            if (end - start != word.length()) {
                return false;
            }
            for (int k = 0; k < word.length(); k++) {
                if (text[start + k] != word.charAt(k)) {
                    return false;
                }
            }
            return true;
        }

        private void put(int kind, int start, int value) {
            if (count < kinds.length) {
                kinds[count] = kind;
                starts[count] = start;
                values[count] = value;
                count++;
            }
        }

        private static boolean isDigit(int sign) {
            return sign >= '0' && sign <= '9';
        }

        private static boolean isLetter(int sign) {
            return sign >= 'a' && sign <= 'z';
        }
    }

    /**
     * Reads the tokens of a setup text into a draft.
     *
     * <p>Tokens are checked in the order of the text, each one fully before the next one is looked at,
     * so the first error found is the one with the smallest offset.
     */
    private static final class Reader {
        private final Tokens tokens = new Tokens();
        private final Graph draft = new Graph();
        private int error = 0;
        private int errorAt = -1;

        private int next = 0;
        private int kind = Tokens.END;
        private int start = 0;
        private int value = 0;

        private boolean hasCost = false;
        private final int[] code = new int[MOST_BYTES];
        private int codeLength = 0;
        /** Operators and parentheses whose right sides are being read: three a level at most, and two inside. */
        private final int[] waiting = new int[3 * MOST_NESTED + 2];
        private int waitingCount = 0;

        boolean readSetup() {
            next = 0;
            hasCost = false;
            takeToken();
            if (kind != Tokens.WALK) {
                return fail(SYNTAX_ERROR);
            }
            if (!readNumber(LEAST_VERTICES, MOST_VERTICES)) {
                return false;
            }
            draft.clear(value);
            if (!readSemicolon()) {
                return false;
            }
            // Each statement takes a token at least.
            for (int k = 0; k < tokens.count; k++) {
                takeToken();
                if (kind == Tokens.END) {
                    return true;
                }
                if (!readStatement()) {
                    return false;
                }
            }
            return fail(SYNTAX_ERROR);
        }

        /** The semicolon behind the statement is read, too. */
        private boolean readStatement() {
            switch (kind) {
                case Tokens.EDGE:
                    return readEdge() && readSemicolon();
                case Tokens.ABSORB:
                    return readAbsorb() && readSemicolon();
                case Tokens.JOIN:
                    return readJoin() && readSemicolon();
                case Tokens.COST:
                    return readCost();
                default:
                    return fail(SYNTAX_ERROR);
            }
        }

        private boolean readEdge() {
            if (!readVertex()) {
                return false;
            }
            int first = value;
            if (!readVertex()) {
                return false;
            }
            int second = value;
            if (first == second || draft.weightBetween(first, second) != 0) {
                return fail(DUPLICATE);
            }
            if (!readNumber(1, MOST_WEIGHT)) {
                return false;
            }
            draft.putEdge(first, second, value);
            return true;
        }

        private boolean readAbsorb() {
            if (!readVertex()) {
                return false;
            }
            if (draft.isAbsorbing(value)) {
                return fail(DUPLICATE);
            }
            draft.absorbing |= 1 << value;
            return true;
        }

        private boolean readJoin() {
            if (!readVertex()) {
                return false;
            }
            int first = value;
            if (!readVertex()) {
                return false;
            }
            draft.uniteBlocks(first, value);
            return true;
        }

        /** Reads a sum and the semicolon behind it, and puts its operators behind their operands. */
        private boolean readCost() {
            if (hasCost) {
                return fail(SYNTAX_ERROR);
            }
            hasCost = true;
            codeLength = 0;
            waitingCount = 0;
            int nested = 0;
            boolean wantsFactor = true;
            for (int k = 0; k < tokens.count; k++) {
                takeToken();
                if (wantsFactor && kind == '(') {
                    if (nested >= MOST_NESTED) {
                        return fail(TOO_DEEP);
                    }
                    nested++;
                    postpone(kind);
                } else if (wantsFactor) {
                    if (!readFactor()) {
                        return false;
                    }
                    wantsFactor = false;
                } else if (strength(kind) > 0) {
                    release(strength(kind));
                    postpone(kind);
                    wantsFactor = true;
                } else if (kind == ')' && nested > 0) {
                    release(1);
                    // What is left on top is the opening parenthesis, as nested tells that there is one.
                    waitingCount--;
                    nested--;
                } else if (kind == ';' && nested == 0) {
                    release(1);
                    draft.formula = Arrays.copyOf(code, codeLength);
                    return true;
                } else {
                    return fail(SYNTAX_ERROR);
                }
            }
            return fail(SYNTAX_ERROR);
        }

        private boolean readFactor() {
            switch (kind) {
                case Tokens.NUMBER:
                    if (value > MOST_NUMBER) {
                        return fail(OUT_OF_RANGE);
                    }
                    emit(value);
                    return true;
                case Tokens.WEIGHT:
                    emit(Costs.WEIGHT);
                    return true;
                case Tokens.FROM:
                    emit(Costs.FROM);
                    return true;
                case Tokens.TO:
                    emit(Costs.TO);
                    return true;
                default:
                    return fail(SYNTAX_ERROR);
            }
        }

        private void emit(int sign) {
            if (codeLength < code.length) {
                code[codeLength] = sign;
                codeLength++;
            }
        }

        private void postpone(int sign) {
            if (waitingCount < waiting.length) {
                waiting[waitingCount] = sign;
                waitingCount++;
            }
        }

        /** Emits the waiting operators of that strength or more, back to the latest parenthesis. */
        private void release(int strength) {
            while (waitingCount > 0 && strength(waiting[waitingCount - 1]) >= strength) {
                waitingCount--;
                emit(operation(waiting[waitingCount]));
            }
        }

        /** 0 for what is no operator. */
        private static int strength(int sign) {
            if (sign == '*' || sign == '/') {
                return 2;
            }
            return sign == '+' || sign == '-' ? 1 : 0;
        }

        private static int operation(int sign) {
            switch (sign) {
                case '+':
                    return Costs.PLUS;
                case '-':
                    return Costs.MINUS;
                case '*':
                    return Costs.TIMES;
                default:
                    return Costs.OVER;
            }
        }

        private boolean readVertex() {
            return readNumber(0, draft.vertices - 1);
        }

        private boolean readNumber(int least, int most) {
            takeToken();
            if (kind != Tokens.NUMBER) {
                return fail(SYNTAX_ERROR);
            }
            if (value < least || value > most) {
                return fail(OUT_OF_RANGE);
            }
            return true;
        }

        private boolean readSemicolon() {
            takeToken();
            return kind == ';' || fail(SYNTAX_ERROR);
        }

        /** The end of the text can be taken again and again. */
        private void takeToken() {
            kind = tokens.kinds[next];
            start = tokens.starts[next];
            value = tokens.values[next];
            if (next < tokens.count - 1) {
                next++;
            }
        }

        private boolean fail(int newError) {
            error = newError;
            errorAt = start;
            return false;
        }
    }

    /** Evaluates cost expressions: codes with the operators behind their operands; 0 and more are numbers. */
    private static final class Costs {
        private static final int WEIGHT = -1;
        private static final int FROM = -2;
        private static final int TO = -3;
        private static final int PLUS = -4;
        private static final int MINUS = -5;
        private static final int TIMES = -6;
        private static final int OVER = -7;
        private static final int LIMIT = 1000000;

        /** Four parentheses, each behind a sum and a term begun, leave eleven numbers waiting at most. */
        private final int[] stack = new int[16];
        private final int[] table = new int[MOST_VERTICES * MOST_VERTICES];

        int costOfStep(Graph graph, int from, int to) {
            int result = evaluate(graph.formula, graph.weightBetween(from, to), from, to);
            return Math.max(0, Math.min(MOST_COST, result));
        }

        void fillTable(Graph graph) {
            Arrays.fill(table, 0);
            for (int e = 0; e < graph.edges; e++) {
                int low = graph.low[e];
                int high = graph.high[e];
                table[low * MOST_VERTICES + high] = costOfStep(graph, low, high);
                table[high * MOST_VERTICES + low] = costOfStep(graph, high, low);
            }
        }

        /** The cost of a step in the table; 0 where there is no edge. */
        int tabled(int from, int to) {
            return table[from * MOST_VERTICES + to];
        }

        private int evaluate(int[] code, int weight, int from, int to) {
            int depth = 0;
            for (int k = 0; k < code.length; k++) {
                int sign = code[k];
                if (sign > PLUS) {
                    if (depth < stack.length) {
                        stack[depth] = operand(sign, weight, from, to);
                        depth++;
                    }
                } else if (depth >= 2) {
                    depth--;
                    stack[depth - 1] = operate(sign, stack[depth - 1], stack[depth]);
                }
            }
            return depth > 0 ? stack[0] : 0;
        }

        private static int operand(int sign, int weight, int from, int to) {
            switch (sign) {
                case WEIGHT:
                    return weight;
                case FROM:
                    return from;
                case TO:
                    return to;
                default:
                    return sign;
            }
        }

        private static int operate(int sign, long left, long right) {
            long result;
            if (sign == PLUS) {
                result = left + right;
            } else if (sign == MINUS) {
                result = left - right;
            } else if (sign == TIMES) {
                result = left * right;
            } else {
                result = right == 0 ? 0 : left / right;
            }
            return (int) Math.max(-LIMIT, Math.min(LIMIT, result));
        }
    }

    /** Compares, divides and lumps the blocks of a graph. */
    private static final class Partition {
        /** The blocks as vertices, with the edges between different ones; steps inside a block are left out. */
        private final Graph lump = new Graph();
        /** The sums of the degrees in the blocks. */
        private final long[] lumpGains = new long[MOST_VERTICES];
        private final int[] finer = new int[MOST_VERTICES];

        /** 100 * x + 10 * y + b, as parted tells it, or -1. */
        int firstParted(Graph graph) {
            for (int x = 0; x < graph.vertices; x++) {
                for (int y = x + 1; y < graph.vertices; y++) {
                    if (graph.block[x] == graph.block[y]) {
                        int b = firstDifference(graph, x, y);
                        if (b >= 0) {
                            return 100 * x + 10 * y + b;
                        }
                    }
                }
            }
            return -1;
        }

        void refineBlocks(Graph graph) {
            // Each round makes a block more at least.
            for (int round = 0; round < MOST_VERTICES && firstParted(graph) >= 0; round++) {
                divideAll(graph);
            }
        }

        /**
         * Makes the graph of the blocks. Where they can be lumped, all vertices of a block have the same
         * transitions, so these are also the sum of their weights divided by the sum of their degrees.
         */
        void lumpBlocks(Graph graph) {
            lump.clear(graph.blocks);
            Arrays.fill(lumpGains, 0);
            for (int v = 0; v < graph.vertices; v++) {
                int from = graph.block[v];
                lumpGains[from] += graph.sumOfWeights(v);
                for (int b = from + 1; b < graph.blocks; b++) {
                    lump.putWeight(from, b, lump.weightBetween(from, b) + weightTo(graph, v, b));
                }
            }
        }

        /** The transition between two blocks of the graph that was lumped last. */
        void blockChance(int from, int to, Fraction chance) {
            long sum = lumpGains[from];
            if (sum <= 0) {
                chance.put(from == to ? 1 : 0, 1);
            } else if (from == to) {
                chance.put(sum - lump.sumOfWeights(from), sum);
            } else {
                chance.put(lump.weightBetween(from, to), sum);
            }
        }

        /** The smallest block other than their own to which the transitions of two vertices differ, or -1. */
        private static int firstDifference(Graph graph, int x, int y) {
            // A vertex without edges has the transition 0 to each other block, as with a degree of 1.
            int degreeX = Math.max(1, graph.sumOfWeights(x));
            int degreeY = Math.max(1, graph.sumOfWeights(y));
            for (int b = 0; b < graph.blocks; b++) {
                if (b != graph.block[x]
                        && weightTo(graph, x, b) * degreeY != weightTo(graph, y, b) * degreeX) {
                    return b;
                }
            }
            return -1;
        }

        private static int weightTo(Graph graph, int vertex, int block) {
            int sum = 0;
            for (int u = 0; u < graph.vertices; u++) {
                if (graph.block[u] == block) {
                    sum += graph.weightBetween(vertex, u);
                }
            }
            return sum;
        }

        /** Going through the vertices upwards numbers the new blocks by their smallest vertices. */
        private void divideAll(Graph graph) {
            int count = 0;
            for (int v = 0; v < graph.vertices; v++) {
                int first = 0;
                while (first < v && !staysWith(graph, first, v)) {
                    first++;
                }
                if (first < v) {
                    finer[v] = finer[first];
                } else {
                    finer[v] = count;
                    count++;
                }
            }
            System.arraycopy(finer, 0, graph.block, 0, graph.vertices);
            graph.blocks = count;
        }

        private static boolean staysWith(Graph graph, int x, int y) {
            return graph.block[x] == graph.block[y] && firstDifference(graph, x, y) < 0;
        }
    }

    /**
     * The linear equations of mean values: for each unknown vertex v, the sum of its weights times its value,
     * minus its weights times the values of the other unknown vertices, is the gain of v. All are integers,
     * and so are they after each division of the elimination.
     */
    private static final class Equations {
        private static final int WIDTH = MOST_VERTICES + 1;

        private final long[] cells = new long[MOST_VERTICES * WIDTH];
        private final int[] unknown = new int[MOST_VERTICES];
        private final long[] noGains = new long[MOST_VERTICES];
        private int count = 0;

        /** The mean sum of the gains until a walk is at a vertex that can be reached. */
        void meanUntil(Graph graph, int from, int to, long[] gains, Fraction result) {
            if (from == to) {
                result.put(0, 1);
            } else {
                solve(graph, graph.component(from) & ~(1 << to), from, gains, result);
            }
        }

        /** The value of one of the unknown vertices. */
        void solve(Graph graph, int unknowns, int wanted, long[] gains, Fraction result) {
            build(graph, unknowns, wanted, gains);
            if (eliminate()) {
                result.put(cell(count - 1, count), cell(count - 1, count - 1));
            } else {
                result.put(0, 1);
            }
        }

        /** The determinant of the equations without the vertex 0, for which the gains do not matter. */
        long treesOf(Graph graph) {
            int all = (1 << graph.vertices) - 1;
            build(graph, all & ~1, 1, noGains);
            return eliminate() ? cell(count - 1, count - 1) : 0;
        }

        /** The wanted vertex comes last, so that the last row alone tells its value in the end. */
        private void build(Graph graph, int unknowns, int wanted, long[] gains) {
            count = 0;
            for (int v = 0; v < graph.vertices; v++) {
                if (v != wanted && (unknowns >> v & 1) != 0) {
                    unknown[count] = v;
                    count++;
                }
            }
            if (count < MOST_VERTICES) {
                unknown[count] = wanted;
                count++;
            }
            for (int i = 0; i < count; i++) {
                int v = unknown[i];
                for (int j = 0; j < count; j++) {
                    putCell(i, j, i == j ? graph.sumOfWeights(v) : -graph.weightBetween(v, unknown[j]));
                }
                putCell(i, count, gains[v]);
            }
        }

        /**
         * The elimination of Bareiss. Each pivot is the determinant of the first rows and columns, which is
         * greater than 0 if a way leads from each unknown vertex to a known one; if one is 0, so is the last.
         */
        private boolean eliminate() {
            long previous = 1;
            for (int k = 0; k < count; k++) {
                long pivot = cell(k, k);
                if (pivot == 0 || previous == 0) {
                    return false;
                }
                for (int i = k + 1; i < count; i++) {
                    long factor = cell(i, k);
                    for (int j = k + 1; j <= count; j++) {
                        putCell(i, j, (cell(i, j) * pivot - factor * cell(k, j)) / previous);
                    }
                }
                previous = pivot;
            }
            return true;
        }

        private long cell(int row, int column) {
            return cells[row * WIDTH + column];
        }

        private void putCell(int row, int column, long number) {
            cells[row * WIDTH + column] = number;
        }
    }

    /** The distribution of a walk after some steps, in float. */
    private static final class Spread {
        private final float[] chances = new float[MOST_VERTICES * MOST_VERTICES];
        private final float[] now = new float[MOST_VERTICES];
        private final float[] next = new float[MOST_VERTICES];
        private final Fraction chance = new Fraction();

        float chanceAfter(Graph graph, int from, int to, int steps) {
            fillChances(graph);
            for (int v = 0; v < graph.vertices; v++) {
                now[v] = v == from ? 1.0f : 0.0f;
            }
            for (int step = 0; step < steps; step++) {
                for (int y = 0; y < graph.vertices; y++) {
                    next[y] = chanceAt(graph, y);
                }
                System.arraycopy(next, 0, now, 0, MOST_VERTICES);
            }
            return now[to];
        }

        private void fillChances(Graph graph) {
            for (int x = 0; x < graph.vertices; x++) {
                for (int y = 0; y < graph.vertices; y++) {
                    graph.stepChance(x, y, chance);
                    chances[x * MOST_VERTICES + y] = (float) chance.above / (float) chance.below;
                }
            }
        }

        private float chanceAt(Graph graph, int y) {
            float sum = 0.0f;
            for (int x = 0; x < graph.vertices; x++) {
                float step = chances[x * MOST_VERTICES + y];
                if (step > 0.0f) {
                    sum += now[x] * step;
                }
            }
            return sum;
        }
    }

    /** A walk by draws. */
    private static final class Stroll {
        private long drawing = 0;
        private int place = 0;
        private int seen = 0;
        private int cost = 0;
        private int stepsUntilAbsorbing = -1;

        void go(Graph graph, Costs costs, int from, int steps, int seed) {
            drawing = seed;
            place = from;
            seen = 1 << from;
            cost = 0;
            stepsUntilAbsorbing = graph.isAbsorbing(from) ? 0 : -1;
            for (int step = 1; step <= steps; step++) {
                int to = drawStep(graph);
                cost += costs.tabled(place, to);
                place = to;
                seen |= 1 << to;
                if (stepsUntilAbsorbing < 0 && graph.isAbsorbing(to)) {
                    stepsUntilAbsorbing = step;
                }
            }
        }

        int told(int what) {
            switch (what) {
                case 0:
                    return place;
                case 1:
                    return seen;
                case 2:
                    return cost;
                default:
                    return stepsUntilAbsorbing;
            }
        }

        private int drawStep(Graph graph) {
            int degree = graph.sumOfWeights(place);
            if (degree <= 0) {
                return place;
            }
            drawing = (drawing * 1103515245L + 12345L) % 2147483648L;
            long drawn = drawing / 65536 % degree;
            long sum = 0;
            for (int u = 0; u < graph.vertices; u++) {
                sum += graph.weightBetween(place, u);
                if (sum > drawn) {
                    return u;
                }
            }
            return place;
        }
    }
}

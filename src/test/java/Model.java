import java.math.BigInteger;
import java.util.ArrayList;
import java.util.Arrays;
import java.util.List;

/**
 * The document again, written in another way: transition matrices of big fractions, trees counted one by one,
 * a parser that goes down by the grammar, states that are copied whole. An exception is told by its class.
 */
final class Model {
    /** A fraction of big integers. */
    record Q(BigInteger above, BigInteger below) {
        static final Q ZERO = of(0, 1);
        static final Q ONE = of(1, 1);

        static Q of(long above, long below) {
            return reduced(BigInteger.valueOf(above), BigInteger.valueOf(below));
        }

        private static Q reduced(BigInteger above, BigInteger below) {
            BigInteger common = above.gcd(below);
            if (below.signum() < 0) {
                common = common.negate();
            }
            return new Q(above.divide(common), below.divide(common));
        }

        Q plus(Q q) {
            return reduced(above.multiply(q.below).add(q.above.multiply(below)), below.multiply(q.below));
        }

        Q minus(Q q) {
            return plus(new Q(q.above.negate(), q.below));
        }

        Q times(Q q) {
            return reduced(above.multiply(q.above), below.multiply(q.below));
        }

        Q over(Q q) {
            return reduced(above.multiply(q.below), below.multiply(q.above));
        }

        boolean isZero() {
            return above.signum() == 0;
        }

        long part(boolean isBelow) {
            return (isBelow ? below : above).longValueExact();
        }
    }

    /** A cost expression. */
    interface Node {
        long value(long weight, long from, long to);
    }

    record Edge(int low, int high, int weight) {
    }

    /** All that a change replaces; lists and sets of it are never written into. */
    record State(int n, List<Edge> edges, List<Boolean> absorbing, List<Integer> blocks, Node cost) {
    }

    static final class Error extends Exception {
        private static final long serialVersionUID = 1L;
        final int code;
        final int offset;

        Error(int code, int offset) {
            this.code = code;
            this.offset = offset;
        }
    }

    private State state = new State(0, List.of(), List.of(), List.of(), (w, f, t) -> 1);
    private final List<State> past = new ArrayList<>();
    private String buffer = "";
    private int offset = -1;

    long append(String twenty) {
        if (buffer.length() + twenty.length() > 600) {
            return -1;
        }
        buffer += twenty;
        return buffer.length();
    }

    long load(int length) {
        argument(length >= 0 && length <= buffer.length());
        String text = buffer.substring(0, length);
        buffer = "";
        try {
            State next = new Parser(text).setup();
            offset = -1;
            change(next);
            return next.edges.size();
        } catch (Error e) {
            offset = e.offset;
            return e.code;
        }
    }

    long errorOffset() {
        return offset;
    }

    long size() {
        return state.n;
    }

    long edgeCount() {
        return state.edges.size();
    }

    long edge(int edge, int what) {
        index(edge, state.edges.size());
        argument(what >= 0 && what <= 4);
        Edge e = state.edges.get(edge);
        return new long[] {e.low, e.high, e.weight, cost(e.low, e.high), cost(e.high, e.low)}[what];
    }

    long degree(int vertex) {
        index(vertex, state.n);
        return state.edges.stream().filter(e -> e.low == vertex || e.high == vertex).mapToLong(Edge::weight).sum();
    }

    long reachable(int vertex) {
        index(vertex, state.n);
        long set = 0;
        for (int v = 0; v < state.n; v++) {
            set |= reaches(vertex, v, 0) ? 1L << v : 0;
        }
        return set;
    }

    long transition(int from, int to, boolean isBelow) {
        index(from, state.n);
        index(to, state.n);
        return chance(from, to).part(isBelow);
    }

    long hittingTime(int from, int to, boolean isBelow) {
        way(from, to);
        return hitting(from, to, false).part(isBelow);
    }

    long hittingCost(int from, int to, boolean isBelow) {
        way(from, to);
        return hitting(from, to, true).part(isBelow);
    }

    long commuteTime(int a, int b, boolean isBelow) {
        way(a, b);
        return hitting(a, b, false).plus(hitting(b, a, false)).part(isBelow);
    }

    long resistance(int a, int b, boolean isBelow) {
        way(a, b);
        if (a == b) {
            return Q.ZERO.part(isBelow);
        }
        long sum = 0;
        for (int v = 0; v < state.n; v++) {
            sum += reaches(a, v, 0) ? degree(v) : 0;
        }
        return hitting(a, b, false).plus(hitting(b, a, false)).over(Q.of(sum, 1)).part(isBelow);
    }

    long trees() {
        return state.n == 0 ? 0 : trees(0, 0, 1, new int[] {0, 1, 2, 3, 4, 5});
    }

    long absorbing() {
        long set = 0;
        for (int v = 0; v < state.n; v++) {
            set += state.absorbing.get(v) ? 1L << v : 0;
        }
        return set;
    }

    long absorption(int from, int at, boolean isBelow) {
        index(from, state.n);
        index(at, state.n);
        argument(state.absorbing.get(at));
        isTrue((reachable(from) & absorbing()) != 0);
        Q[] known = new Q[state.n];
        Q[] gains = new Q[state.n];
        for (int v = 0; v < state.n; v++) {
            gains[v] = Q.ZERO;
            known[v] = state.absorbing.get(v) ? (v == at ? Q.ONE : Q.ZERO) : null;
        }
        return solve(from, known, gains).part(isBelow);
    }

    long absorptionTime(int from, boolean isBelow) {
        index(from, state.n);
        isTrue((reachable(from) & absorbing()) != 0);
        Q[] known = new Q[state.n];
        Q[] gains = new Q[state.n];
        for (int v = 0; v < state.n; v++) {
            gains[v] = Q.ONE;
            known[v] = state.absorbing.get(v) ? Q.ZERO : null;
        }
        return solve(from, known, gains).part(isBelow);
    }

    long blockOf(int vertex) {
        index(vertex, state.n);
        return state.blocks.get(vertex);
    }

    long blockCount() {
        return state.blocks.stream().distinct().count();
    }

    long isLumpable() {
        return parted() == -1 ? 1 : 0;
    }

    long parted() {
        for (int x = 0; x < state.n; x++) {
            for (int y = x + 1; y < state.n; y++) {
                for (int b = 0; b < blockCount() && state.blocks.get(x).equals(state.blocks.get(y)); b++) {
                    if (b != state.blocks.get(x) && !toBlock(x, b).equals(toBlock(y, b))) {
                        return 100 * x + 10 * y + b;
                    }
                }
            }
        }
        return -1;
    }

    long lumped(int from, int to, boolean isBelow) {
        index(from, (int) blockCount());
        index(to, (int) blockCount());
        isTrue(isLumpable() == 1);
        return betweenBlocks(from, to).part(isBelow);
    }

    long lumpedTime(int from, int to, boolean isBelow) {
        int blocks = (int) blockCount();
        index(from, blocks);
        index(to, blocks);
        isTrue(isLumpable() == 1);
        boolean isReached = false;
        for (int x = 0; x < state.n; x++) {
            for (int y = 0; y < state.n; y++) {
                isReached |= state.blocks.get(x) == from && state.blocks.get(y) == to && reaches(x, y, 0);
            }
        }
        isTrue(isReached);
        // The lumped walk moves as the walk does, so the time is that of any vertex of the block.
        Q[] known = new Q[state.n];
        Q[] gains = new Q[state.n];
        for (int v = 0; v < state.n; v++) {
            gains[v] = Q.ONE;
            known[v] = state.blocks.get(v) == to ? Q.ZERO : null;
        }
        return solve(state.blocks.indexOf(from), known, gains).part(isBelow);
    }

    float after(int from, int to, int steps) {
        index(from, state.n);
        index(to, state.n);
        argument(steps >= 0 && steps <= 100);
        float[] now = new float[state.n];
        now[from] = 1.0f;
        for (int step = 0; step < steps; step++) {
            float[] next = new float[state.n];
            for (int x = 0; x < state.n; x++) {
                for (int y = 0; y < state.n; y++) {
                    Q chance = chance(x, y);
                    if (!chance.isZero()) {
                        next[y] = next[y] + now[x] * ((float) chance.part(false) / (float) chance.part(true));
                    }
                }
            }
            now = next;
        }
        return now[to];
    }

    long walk(int from, int steps, int seed, int what) {
        index(from, state.n);
        argument(steps >= 0 && steps <= 1000 && seed >= 0 && what >= 0 && what <= 3);
        BigInteger drawing = BigInteger.valueOf(seed);
        List<Integer> way = new ArrayList<>(List.of(from));
        long cost = 0;
        for (int step = 0; step < steps; step++) {
            int at = way.get(step);
            int to = at;
            if (degree(at) > 0) {
                drawing = drawing.multiply(BigInteger.valueOf(1103515245)).add(BigInteger.valueOf(12345))
                        .mod(BigInteger.TWO.pow(31));
                long drawn = drawing.longValueExact() / 65536 % degree(at);
                to = -1;
                do {
                    to++;
                    drawn -= weight(at, to);
                } while (drawn >= 0);
                cost += cost(at, to);
            }
            way.add(to);
        }
        if (what == 0) {
            return way.get(steps);
        }
        if (what == 1) {
            return way.stream().distinct().mapToLong(v -> 1L << v).sum();
        }
        if (what == 2) {
            return cost;
        }
        for (int k = 0; k <= steps; k++) {
            if (state.absorbing.get(way.get(k))) {
                return k;
            }
        }
        return -1;
    }

    long setWeight(int edge, int weight) {
        index(edge, state.edges.size());
        argument(weight >= 1 && weight <= 9);
        Edge old = state.edges.get(edge);
        List<Edge> edges = new ArrayList<>(state.edges);
        edges.set(edge, new Edge(old.low, old.high, weight));
        change(new State(state.n, edges, state.absorbing, state.blocks, state.cost));
        return old.weight;
    }

    long addEdge(int a, int b, int weight) {
        index(a, state.n);
        index(b, state.n);
        argument(a != b && weight >= 1 && weight <= 9);
        isTrue(weight(a, b) == 0);
        List<Edge> edges = new ArrayList<>(state.edges);
        edges.add(new Edge(Math.min(a, b), Math.max(a, b), weight));
        change(new State(state.n, edges, state.absorbing, state.blocks, state.cost));
        return edges.size() - 1;
    }

    long removeEdge(int edge) {
        index(edge, state.edges.size());
        List<Edge> edges = new ArrayList<>(state.edges);
        edges.remove(edge);
        change(new State(state.n, edges, state.absorbing, state.blocks, state.cost));
        return edges.size();
    }

    long setAbsorbing(int vertex, boolean isAbsorbing) {
        index(vertex, state.n);
        List<Boolean> absorbing = new ArrayList<>(state.absorbing);
        absorbing.set(vertex, isAbsorbing);
        change(new State(state.n, state.edges, absorbing, state.blocks, state.cost));
        return absorbing();
    }

    long join(int a, int b) {
        index(a, state.n);
        index(b, state.n);
        changeBlocks(joined(state.blocks, a, b));
        return blockCount();
    }

    long separate(int vertex) {
        index(vertex, state.n);
        List<Integer> labels = new ArrayList<>(state.blocks);
        labels.set(vertex, 99);
        changeBlocks(labels);
        return blockCount();
    }

    long refine() {
        change(state);
        while (parted() != -1) {
            List<List<Object>> signatures = new ArrayList<>();
            for (int v = 0; v < state.n; v++) {
                List<Object> signature = new ArrayList<>(List.of(state.blocks.get(v)));
                for (int b = 0; b < blockCount(); b++) {
                    signature.add(b == state.blocks.get(v) ? "own" : toBlock(v, b));
                }
                signatures.add(signature);
            }
            List<Integer> labels = signatures.stream().map(signatures::indexOf).toList();
            state = new State(state.n, state.edges, state.absorbing, numbered(labels), state.cost);
        }
        return blockCount();
    }

    long undo() {
        if (past.isEmpty()) {
            return -1;
        }
        state = past.remove(past.size() - 1);
        return past.size();
    }

    long checksum() {
        List<Long> told = new ArrayList<>(List.of(size(), absorbing()));
        for (Edge e : state.edges) {
            told.addAll(List.of((long) e.low, (long) e.high, (long) e.weight));
        }
        for (int block : state.blocks) {
            told.add((long) block);
        }
        told.add(trees());
        BigInteger sum = BigInteger.ZERO;
        for (long n : told) {
            sum = sum.multiply(BigInteger.valueOf(31)).add(BigInteger.valueOf(n));
        }
        return sum.longValue();
    }

    private void change(State next) {
        past.add(state);
        if (past.size() > 8) {
            past.remove(0);
        }
        state = next;
    }

    private void changeBlocks(List<Integer> labels) {
        change(new State(state.n, state.edges, state.absorbing, numbered(labels), state.cost));
    }

    static List<Integer> joined(List<Integer> blocks, int a, int b) {
        return blocks.stream().map(k -> k.equals(blocks.get(b)) ? blocks.get(a) : k).toList();
    }

    static List<Integer> numbered(List<Integer> labels) {
        List<Integer> order = labels.stream().distinct().toList();
        return labels.stream().map(order::indexOf).toList();
    }

    private static void index(int index, int count) {
        if (index < 0 || index >= count) {
            throw new IndexOutOfBoundsException();
        }
    }

    private static void argument(boolean isGood) {
        if (!isGood) {
            throw new IllegalArgumentException();
        }
    }

    private static void isTrue(boolean isGood) {
        if (!isGood) {
            throw new IllegalStateException();
        }
    }

    private void way(int from, int to) {
        index(from, state.n);
        index(to, state.n);
        isTrue(reaches(from, to, 0));
    }

    private int weight(int a, int b) {
        for (Edge e : state.edges) {
            if (e.low == Math.min(a, b) && e.high == Math.max(a, b)) {
                return e.weight;
            }
        }
        return 0;
    }

    private long cost(int from, int to) {
        return Math.max(0, Math.min(99, state.cost.value(weight(from, to), from, to)));
    }

    /** Whether a way leads there that does not touch the set. */
    private boolean reaches(int from, int to, int set) {
        if (from == to) {
            return true;
        }
        for (int v = 0; v < state.n; v++) {
            if ((set >> v & 1) == 0 && weight(from, v) > 0 && reaches(v, to, set | 1 << from)) {
                return true;
            }
        }
        return false;
    }

    private Q chance(int from, int to) {
        long degree = degree(from);
        if (degree == 0) {
            return from == to ? Q.ONE : Q.ZERO;
        }
        return Q.of(weight(from, to), degree);
    }

    private Q toBlock(int vertex, int block) {
        Q sum = Q.ZERO;
        for (int v = 0; v < state.n; v++) {
            if (state.blocks.get(v) == block) {
                sum = sum.plus(chance(vertex, v));
            }
        }
        return sum;
    }

    private Q betweenBlocks(int from, int to) {
        int vertex = state.blocks.lastIndexOf(from);
        if (from != to) {
            return toBlock(vertex, to);
        }
        Q rest = Q.ONE;
        for (int b = 0; b < blockCount(); b++) {
            rest = b == from ? rest : rest.minus(toBlock(vertex, b));
        }
        return rest;
    }

    private Q hitting(int from, int to, boolean withCosts) {
        Q[] known = new Q[state.n];
        Q[] gains = new Q[state.n];
        known[to] = Q.ZERO;
        for (int v = 0; v < state.n; v++) {
            Q mean = Q.ZERO;
            for (int u = 0; u < state.n; u++) {
                mean = u == v ? mean : mean.plus(chance(v, u).times(Q.of(cost(v, u), 1)));
            }
            gains[v] = withCosts ? mean : Q.ONE;
        }
        return solve(from, known, gains);
    }

    /** The value of a vertex: where none is known, the gain plus the mean of the values one step on. */
    private Q solve(int wanted, Q[] known, Q[] gains) {
        List<Integer> open = new ArrayList<>();
        for (int v = 0; v < state.n; v++) {
            if (known[v] == null && reaches(wanted, v, 0)) {
                open.add(v);
            }
        }
        if (known[wanted] != null) {
            return known[wanted];
        }
        int m = open.size();
        Q[][] rows = new Q[m][m + 1];
        for (int i = 0; i < m; i++) {
            Arrays.fill(rows[i], Q.ZERO);
            rows[i][i] = Q.ONE;
            rows[i][m] = gains[open.get(i)];
            for (int v = 0; v < state.n; v++) {
                Q chance = chance(open.get(i), v);
                int j = open.indexOf(v);
                if (j >= 0) {
                    rows[i][j] = rows[i][j].minus(chance);
                } else if (!chance.isZero()) {
                    rows[i][m] = rows[i][m].plus(chance.times(known[v]));
                }
            }
        }
        gaussJordan(rows);
        return rows[open.indexOf(wanted)][m];
    }

    private static void gaussJordan(Q[][] rows) {
        for (int k = 0; k < rows.length; k++) {
            int pivot = k;
            while (rows[pivot][k].isZero()) {
                pivot++;
            }
            Q[] row = rows[pivot];
            rows[pivot] = rows[k];
            rows[k] = row;
            Q head = row[k];
            for (int j = 0; j < row.length; j++) {
                row[j] = row[j].over(head);
            }
            for (int i = 0; i < rows.length; i++) {
                Q factor = rows[i][k];
                for (int j = 0; j < row.length && i != k; j++) {
                    rows[i][j] = rows[i][j].minus(factor.times(row[j]));
                }
            }
        }
    }

    /** The sum over all choices of the edges from that index on that complete a tree. */
    private long trees(int edge, int taken, long product, int[] part) {
        if (taken == state.n - 1) {
            return product;
        }
        if (edge == state.edges.size()) {
            return 0;
        }
        Edge e = state.edges.get(edge);
        long without = trees(edge + 1, taken, product, part);
        if (part[e.low] == part[e.high]) {
            return without;
        }
        int[] merged = part.clone();
        for (int v = 0; v < 6; v++) {
            merged[v] = part[v] == part[e.low] ? part[e.high] : part[v];
        }
        return without + trees(edge + 1, taken + 1, product * e.weight, merged);
    }

    /** Goes down by the grammar, a byte at a time. */
    private static final class Parser {
        private final String text;
        private int at = 0;
        private int n;
        private final List<Edge> edges = new ArrayList<>();
        private final List<Boolean> absorbing = new ArrayList<>();
        private List<Integer> blocks = new ArrayList<>();
        private Node cost = null;

        Parser(String text) {
            this.text = text;
        }

        State setup() throws Error {
            expect("walk");
            n = number(2, 6);
            for (int v = 0; v < n; v++) {
                absorbing.add(false);
                blocks.add(v);
            }
            expect(";");
            while (!peek().isEmpty()) {
                statement();
                expect(";");
            }
            return new State(n, edges, absorbing, blocks, cost == null ? (w, f, t) -> 1 : cost);
        }

        private void statement() throws Error {
            if (takes("edge")) {
                int a = number(0, n - 1);
                int b = number(0, n - 1);
                int start = at - lengthBefore();
                for (Edge e : edges) {
                    fail(e.low == Math.min(a, b) && e.high == Math.max(a, b), RandomWalks.DUPLICATE, start);
                }
                fail(a == b, RandomWalks.DUPLICATE, start);
                edges.add(new Edge(Math.min(a, b), Math.max(a, b), number(1, 9)));
            } else if (takes("absorb")) {
                int v = number(0, n - 1);
                fail(absorbing.get(v), RandomWalks.DUPLICATE, at - lengthBefore());
                absorbing.set(v, true);
            } else if (takes("join")) {
                int a = number(0, n - 1);
                blocks = numbered(joined(blocks, a, number(0, n - 1)));
            } else {
                skip();
                fail(cost != null, RandomWalks.SYNTAX_ERROR, at);
                expect("cost");
                cost = sum(0);
            }
        }

        private Node sum(int depth) throws Error {
            Node left = term(depth);
            while (peek().equals("+") || peek().equals("-")) {
                boolean isPlus = takes("+") || !takes("-");
                Node first = left;
                Node second = term(depth);
                left = (w, f, t) -> limited(first.value(w, f, t)
                        + (isPlus ? second.value(w, f, t) : -second.value(w, f, t)));
            }
            return left;
        }

        private Node term(int depth) throws Error {
            Node left = factor(depth);
            while (peek().equals("*") || peek().equals("/")) {
                boolean isTimes = takes("*") || !takes("/");
                Node first = left;
                Node second = factor(depth);
                left = (w, f, t) -> {
                    long a = first.value(w, f, t);
                    long b = second.value(w, f, t);
                    return limited(isTimes ? a * b : b == 0 ? 0 : a / b);
                };
            }
            return left;
        }

        private Node factor(int depth) throws Error {
            if (takes("weight")) {
                return (w, f, t) -> w;
            }
            if (takes("from")) {
                return (w, f, t) -> f;
            }
            if (takes("to")) {
                return (w, f, t) -> t;
            }
            if (peek().equals("(")) {
                fail(depth == 4, RandomWalks.TOO_DEEP, at);
                expect("(");
                Node inner = sum(depth + 1);
                expect(")");
                return inner;
            }
            int value = number(0, 9999);
            return (w, f, t) -> value;
        }

        private static long limited(long value) {
            return Math.max(-1000000, Math.min(1000000, value));
        }

        private void skip() {
            while (at < text.length() && text.charAt(at) == ' ') {
                at++;
            }
        }

        /** The next token, with its spaces skipped; empty at the end. */
        private String peek() {
            skip();
            int end = at;
            while (end < text.length() && kind(end) != 0 && kind(end) == kind(at)) {
                end++;
            }
            return end > at ? text.substring(at, end) : at < text.length() ? text.substring(at, at + 1) : "";
        }

        private int kind(int index) {
            char c = text.charAt(index);
            return c >= '0' && c <= '9' ? 1 : c >= 'a' && c <= 'z' ? 2 : 0;
        }

        private boolean takes(String token) {
            boolean isIt = peek().equals(token);
            at += isIt ? token.length() : 0;
            return isIt;
        }

        private void expect(String token) throws Error {
            fail(!takes(token), RandomWalks.SYNTAX_ERROR, at);
        }

        private int number(int least, int most) throws Error {
            String token = peek();
            fail(token.isEmpty() || kind(at) != 1, RandomWalks.SYNTAX_ERROR, at);
            BigInteger value = new BigInteger(token);
            fail(value.compareTo(BigInteger.valueOf(least)) < 0 || value.compareTo(BigInteger.valueOf(most)) > 0,
                    RandomWalks.OUT_OF_RANGE, at);
            at += token.length();
            return value.intValueExact();
        }

        /** The length of the number that ends here. */
        private int lengthBefore() {
            int start = at;
            while (start > 0 && kind(start - 1) == 1) {
                start--;
            }
            return at - start;
        }

        private static void fail(boolean isWrong, int code, int offset) throws Error {
            if (isWrong) {
                throw new Error(code, offset);
            }
        }
    }
}

import java.util.Arrays;

/**
 * Games of two players on a graph with weights, that go on without end: the least credit, the value
 * and the best edge of each vertex.
 */
public final class CreditGame {
    public static final int NONE = -1;

    private static final int MOST_VERTICES = 7;
    private static final int MOST_EDGES = 24;
    private static final int GREATEST_WEIGHT = 9;
    private static final int GREATEST_TOP = 99;
    private static final int GREATEST_BOTTOM = 9;

    /** The least common multiple of 1 .. 7, so that every value has a whole number of these parts. */
    private static final int PARTS = 420;

    /** Beyond every value, which is at most 9 * PARTS. */
    private static final int BEYOND = 1000000;

    /**
     * Each sweep but the last raises a credit by 1 or more, and no credit is above 6 * 126 (six edges,
     * each of at most 7 * 9 + 63), so that 7 * 756 + 1 sweeps are enough.
     */
    private static final int MOST_SWEEPS = 10000;

    private static final int WALK_FRONT = 0;
    private static final int WALK_LENGTH = 1;
    private static final int WALK_SUM = 2;
    private static final int WALK_START = 3;

    private final Graph graph;
    private final Values values;
    private final Credits credits;
    private final Path walked;
    private final int[] chosen;

    public CreditGame() {
        graph = new Graph();
        values = new Values(graph);
        credits = new Credits(graph, values);
        walked = new Path();
        chosen = new int[MOST_VERTICES];
    }

    public int vertex(int player) throws IllegalArgumentException, IllegalStateException {
        checkPlayer(player);
        if (graph.vertexCount >= MOST_VERTICES) {
            throw new IllegalStateException("there are 7 vertices");
        }
        values.forget();
        return graph.addVertex(player);
    }

    public int edge(int from, int to, int weight) throws IllegalArgumentException, IllegalStateException {
        checkVertex(from);
        checkVertex(to);
        if (weight < -GREATEST_WEIGHT || weight > GREATEST_WEIGHT) {
            throw new IllegalArgumentException("weight is not -9 .. 9");
        }
        if (graph.edgeCount >= MOST_EDGES) {
            throw new IllegalStateException("there are 24 edges");
        }
        values.forget();
        return graph.addEdge(from, to, weight);
    }

    public void fix(int vertex, int edge) throws IllegalArgumentException {
        checkVertex(vertex);
        if (edge != NONE && !graph.isFrom(edge, vertex)) {
            throw new IllegalArgumentException("no such edge from the vertex");
        }
        values.forget();
        graph.setFixed(vertex, edge);
    }

    public int fixed(int vertex) throws IllegalArgumentException {
        checkVertex(vertex);
        return graph.fixedOf(vertex);
    }

    public int credit(int vertex) throws IllegalArgumentException, IllegalStateException {
        checkVertex(vertex);
        checkComplete();
        values.findAll();
        credits.solve(0, 0, 1);
        return credits.needOf(vertex);
    }

    public boolean reaches(int vertex, int p, int q) throws IllegalArgumentException, IllegalStateException {
        checkVertex(vertex);
        if (p < -GREATEST_TOP || p > GREATEST_TOP) {
            throw new IllegalArgumentException("p is not -99 .. 99");
        }
        if (q < 1 || q > GREATEST_BOTTOM) {
            throw new IllegalArgumentException("q is not 1 .. 9");
        }
        checkComplete();
        values.find(vertex);
        return values.order(vertex, p, q) >= 0;
    }

    public int value(int vertex, boolean below) throws IllegalArgumentException, IllegalStateException {
        checkVertex(vertex);
        checkComplete();
        values.find(vertex);
        return below ? values.bottomOf(vertex) : values.topOf(vertex);
    }

    public int best(int vertex) throws IllegalArgumentException, IllegalStateException {
        checkVertex(vertex);
        checkComplete();
        values.findAll();
        return bestEdge(vertex);
    }

    public int settle(int player) throws IllegalArgumentException, IllegalStateException {
        checkPlayer(player);
        checkComplete();
        values.findAll();
        chooseFor(player);
        values.forget();
        return fixChosen();
    }

    public int walk(int vertex, int what) throws IllegalArgumentException, IllegalStateException {
        checkVertex(vertex);
        if (what < WALK_FRONT || what > WALK_START) {
            throw new IllegalArgumentException("what is not 0 .. 3");
        }
        checkComplete();
        values.findAll();
        return tellWalk(vertex, what);
    }

    private void checkPlayer(int player) {
        if (player != 0 && player != 1) {
            throw new IllegalArgumentException("player is not 0 or 1");
        }
    }

    private void checkVertex(int vertex) {
        if (!graph.hasVertex(vertex)) {
            throw new IllegalArgumentException("no such vertex");
        }
    }

    private void checkComplete() {
        if (!graph.isComplete()) {
            throw new IllegalStateException("the game is not complete");
        }
    }

    /** The values of all vertices must have been found. */
    private int bestEdge(int vertex) {
        credits.solve(graph.ownerOf(vertex), values.topOf(vertex), values.bottomOf(vertex));
        int ways = graph.waysFrom(vertex);
        for (int k = 0; k < ways; k++) {
            int edge = graph.wayFrom(vertex, k);
            if (credits.allows(vertex, edge)) {
                return edge;
            }
        }
        return NONE;
    }

    /** All edges are chosen before any vertex is fixed: fixing one can change the best edge of another. */
    private void chooseFor(int player) {
        for (int v = 0; v < MOST_VERTICES; v++) {
            boolean open = graph.hasVertex(v) && graph.ownerOf(v) == player && graph.fixedOf(v) == NONE;
            chosen[v] = open ? bestEdge(v) : NONE;
        }
    }

    private int fixChosen() {
        int count = 0;
        for (int v = 0; v < MOST_VERTICES; v++) {
            if (chosen[v] != NONE) {
                graph.setFixed(v, chosen[v]);
                count++;
            }
        }
        return count;
    }

    private int tellWalk(int vertex, int what) {
        walked.clear();
        int at = vertex;
        int steps = 0;
        int sum = 0;
        while (steps < MOST_VERTICES && !walked.has(at)) {
            walked.enter(at, steps, sum);
            int edge = bestEdge(at);
            sum += graph.weightOf(edge);
            at = graph.targetOf(edge);
            steps++;
        }
        switch (what) {
            case WALK_FRONT:
                return walked.stepsTo(at);
            case WALK_LENGTH:
                return steps - walked.stepsTo(at);
            case WALK_SUM:
                return sum - walked.sumTo(at);
            default:
                return at;
        }
    }

    /**
     * The vertices, the edges, and which of them lead on. What is asked of a vertex or an edge that is
     * not there is answered by 0 or NONE, so that no row is ever read outside it.
     */
    private static final class Graph {
        private final int[] owner = new int[MOST_VERTICES];
        private final int[] fixedTo = new int[MOST_VERTICES];
        private final int[] outCount = new int[MOST_VERTICES];
        private final int[][] out = new int[MOST_VERTICES][MOST_EDGES];
        private final int[] source = new int[MOST_EDGES];
        private final int[] target = new int[MOST_EDGES];
        private final int[] weight = new int[MOST_EDGES];
        private int vertexCount = 0;
        private int edgeCount = 0;

        private int addVertex(int player) {
            int v = vertexCount;
            if (v < 0 || v >= MOST_VERTICES) {
                return NONE;
            }
            owner[v] = player;
            fixedTo[v] = NONE;
            vertexCount = v + 1;
            return v;
        }

        private int addEdge(int from, int to, int w) {
            int e = edgeCount;
            if (e < 0 || e >= MOST_EDGES || !hasVertex(from) || !hasVertex(to)) {
                return NONE;
            }
            int place = outCount[from];
            if (place < 0 || place >= MOST_EDGES) {
                return NONE;
            }
            source[e] = from;
            target[e] = to;
            weight[e] = w;
            out[from][place] = e;
            outCount[from] = place + 1;
            edgeCount = e + 1;
            return e;
        }

        private boolean hasVertex(int v) {
            return v >= 0 && v < vertexCount && v < MOST_VERTICES;
        }

        private boolean isFrom(int e, int v) {
            return e >= 0 && e < edgeCount && e < MOST_EDGES && source[e] == v;
        }

        private int ownerOf(int v) {
            return hasVertex(v) ? owner[v] : 0;
        }

        private int fixedOf(int v) {
            return hasVertex(v) ? fixedTo[v] : NONE;
        }

        private void setFixed(int v, int e) {
            if (hasVertex(v)) {
                fixedTo[v] = e;
            }
        }

        private int targetOf(int e) {
            return e >= 0 && e < MOST_EDGES ? target[e] : NONE;
        }

        private int weightOf(int e) {
            return e >= 0 && e < MOST_EDGES ? weight[e] : 0;
        }

        /** How many edges lead from a vertex. */
        private int waysFrom(int v) {
            if (!hasVertex(v)) {
                return 0;
            }
            return fixedTo[v] != NONE ? 1 : outCount[v];
        }

        /** The edge that is number k of those that lead from a vertex. */
        private int wayFrom(int v, int k) {
            if (!hasVertex(v) || k < 0 || k >= outCount[v] || k >= MOST_EDGES) {
                return NONE;
            }
            return fixedTo[v] != NONE ? fixedTo[v] : out[v][k];
        }

        private boolean isComplete() {
            for (int v = 0; v < vertexCount; v++) {
                if (waysFrom(v) == 0) {
                    return false;
                }
            }
            return vertexCount > 0;
        }
    }

    /** The vertices that a play has come to: after how many edges, and with what sum of weights. */
    private static final class Path {
        private final int[] steps = new int[MOST_VERTICES];
        private final int[] sums = new int[MOST_VERTICES];

        private void clear() {
            Arrays.fill(steps, NONE);
        }

        private boolean isPlace(int v) {
            return v >= 0 && v < MOST_VERTICES;
        }

        private boolean has(int v) {
            return isPlace(v) && steps[v] != NONE;
        }

        private void enter(int v, int stepsTo, int sumTo) {
            if (isPlace(v)) {
                steps[v] = stepsTo;
                sums[v] = sumTo;
            }
        }

        private void leave(int v) {
            if (isPlace(v)) {
                steps[v] = NONE;
            }
        }

        private int stepsTo(int v) {
            return isPlace(v) ? steps[v] : NONE;
        }

        private int sumTo(int v) {
            return isPlace(v) ? sums[v] : 0;
        }
    }

    /**
     * The values. Both players can do as well in the game without end as in the one that stops when a
     * vertex comes for the second time and then pays the average of the loop (Ehrenfeucht, Mycielski),
     * and that one has at most seven moves: it is searched, leaving out what can't change the answer.
     */
    private static final class Values {
        private final Graph graph;
        private final Path path = new Path();
        private final boolean[] known = new boolean[MOST_VERTICES];
        private final int[] parts = new int[MOST_VERTICES];

        private Values(Graph graph) {
            this.graph = graph;
        }

        private void forget() {
            for (int v = 0; v < MOST_VERTICES; v++) {
                known[v] = false;
            }
        }

        private void findAll() {
            for (int v = 0; v < MOST_VERTICES; v++) {
                find(v);
            }
        }

        private void find(int v) {
            if (graph.hasVertex(v) && !known[v]) {
                path.clear();
                parts[v] = playAt(v, 0, 0, -BEYOND, BEYOND);
                known[v] = true;
            }
        }

        private int topOf(int v) {
            return partsOf(v) * bottomOf(v) / PARTS;
        }

        private int bottomOf(int v) {
            for (int d = 1; d < MOST_VERTICES; d++) {
                if (partsOf(v) * d % PARTS == 0) {
                    return d;
                }
            }
            return MOST_VERTICES;
        }

        /** Below 0, 0 or above 0: the value is less than p / q, the same, or greater. */
        private int order(int v, int p, int q) {
            return Integer.compare(partsOf(v) * q, p * PARTS);
        }

        private int partsOf(int v) {
            return graph.hasVertex(v) ? parts[v] : 0;
        }

        /** What the play pays that comes to v: exact between low and high; outside, it only tells the side. */
        private int playAt(int v, int steps, int sum, int low, int high) {
            if (!graph.hasVertex(v) || steps > MOST_VERTICES) {
                return 0;
            }
            if (path.has(v)) {
                return loopParts(steps - path.stepsTo(v), sum - path.sumTo(v));
            }
            path.enter(v, steps, sum);
            int pay = graph.ownerOf(v) == 0
                    ? greatestPay(v, steps, sum, low, high)
                    : leastPay(v, steps, sum, low, high);
            path.leave(v);
            return pay;
        }

        private int greatestPay(int v, int steps, int sum, int low, int high) {
            int pay = -BEYOND;
            int ways = graph.waysFrom(v);
            for (int k = 0; k < ways && pay < high; k++) {
                int edge = graph.wayFrom(v, k);
                int next = graph.targetOf(edge);
                pay = Math.max(pay, playAt(next, steps + 1, sum + graph.weightOf(edge), Math.max(low, pay), high));
            }
            return pay;
        }

        private int leastPay(int v, int steps, int sum, int low, int high) {
            int pay = BEYOND;
            int ways = graph.waysFrom(v);
            for (int k = 0; k < ways && pay > low; k++) {
                int edge = graph.wayFrom(v, k);
                int next = graph.targetOf(edge);
                pay = Math.min(pay, playAt(next, steps + 1, sum + graph.weightOf(edge), low, Math.min(high, pay)));
            }
            return pay;
        }

        private static int loopParts(int length, int sum) {
            return length > 0 ? PARTS / length * sum : 0;
        }
    }

    /** The credits in a game with weights that are changed, in which either player may be player 0. */
    private static final class Credits {
        private final Graph graph;
        private final Values values;
        private final int[] need = new int[MOST_VERTICES];
        private final int[] gain = new int[MOST_EDGES];

        private Credits(Graph graph, Values values) {
            this.graph = graph;
            this.values = values;
        }

        /**
         * The game in which a player is player 0 and what counts is by how much p / q is passed, to that
         * player's good. Beginning with nothing, the credits are raised until each is enough for the next
         * edge. The values of all vertices must have been found.
         */
        private void solve(int player, int p, int q) {
            for (int e = 0; e < MOST_EDGES; e++) {
                int passed = q * graph.weightOf(e) - p;
                gain[e] = player == 0 ? passed : -passed;
            }
            for (int v = 0; v < MOST_VERTICES; v++) {
                need[v] = isGoodFor(player, values.order(v, p, q)) ? 0 : NONE;
            }
            boolean raised = true;
            for (int sweep = 0; sweep < MOST_SWEEPS && raised; sweep++) {
                raised = false;
                for (int v = 0; v < MOST_VERTICES; v++) {
                    int enough = enoughAt(v, graph.ownerOf(v) == player);
                    if (need[v] != NONE && enough > need[v]) {
                        need[v] = enough;
                        raised = true;
                    }
                }
            }
        }

        /** A vertex has a credit just if its value is no worse for the player than p / q. */
        private boolean isGoodFor(int player, int order) {
            return player == 0 ? order >= 0 : order <= 0;
        }

        /** The least that is enough for an edge from v if the player who spares chooses, else the most. */
        private int enoughAt(int v, boolean spares) {
            int enough = NONE;
            int ways = graph.waysFrom(v);
            for (int k = 0; k < ways; k++) {
                int before = needBefore(graph.wayFrom(v, k));
                boolean better = spares ? before < enough : before > enough;
                if (before != NONE && (enough == NONE || better)) {
                    enough = before;
                }
            }
            return enough;
        }

        /** What is needed in front of an edge; NONE if it leads where there is no credit. */
        private int needBefore(int edge) {
            int after = needOf(graph.targetOf(edge));
            return after == NONE ? NONE : Math.max(0, after - gainOf(edge));
        }

        /** Whether a vertex's credit is enough to go by an edge from it. */
        private boolean allows(int v, int edge) {
            int after = needOf(graph.targetOf(edge));
            return after != NONE && needOf(v) + gainOf(edge) >= after;
        }

        private int needOf(int v) {
            return v >= 0 && v < MOST_VERTICES ? need[v] : NONE;
        }

        private int gainOf(int edge) {
            return edge >= 0 && edge < MOST_EDGES ? gain[edge] : 0;
        }
    }
}

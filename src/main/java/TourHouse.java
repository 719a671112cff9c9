import java.util.Arrays;
import java.util.NoSuchElementException;

/**
 * A house for tours: a graph with weights, directed or not, its least tour and
 * its cheapest round from a vertex, and walks judged.
 */
public final class TourHouse {
    private static final int MOST_VERTICES = 16;
    private static final int MOST_EDGES = 40;
    private static final int MOST_WEIGHT = 1000000000;
    private static final int MOST_PATH_STEPS = 1000;

    /** Each edge once, and 40 extra passages at most, none of them over more than 15 edges. */
    private static final int MOST_ROW_STEPS = MOST_EDGES + MOST_EDGES * (MOST_VERTICES - 1);

    private static final int NO_WALK = -1;
    private static final int NOT_CLOSED = -2;
    private static final int NOT_COVERING = -3;
    private static final int NO_TOUR = -1;
    private static final int ODD_VERTEX = -2;
    private static final int NO_ROUND = -1;

    private final Graph graph;
    private final StepRow latestRow;
    private final StepRow path;
    private final int[] uses;
    private final int[] extras;
    private final Distances distances;
    private final Pairing pairing;
    private final Balancing balancing;
    private boolean extrasStand;

    public TourHouse() {
        graph = new Graph();
        latestRow = new StepRow(MOST_ROW_STEPS);
        path = new StepRow(MOST_PATH_STEPS);
        uses = new int[MOST_EDGES];
        extras = new int[MOST_EDGES];
        distances = new Distances();
        pairing = new Pairing();
        balancing = new Balancing();
        extrasStand = false;
    }

    public int reset(boolean directed, int n) throws IllegalArgumentException {
        if (n < 1 || n > MOST_VERTICES) {
            throw new IllegalArgumentException("a graph has 1 to 16 vertices");
        }
        int old = graph.edges;
        graph.begin(directed, n);
        forgetAnswers();
        return old;
    }

    public int edge(int a, int b, int weight) throws IllegalArgumentException, IllegalStateException {
        requireVertex(a);
        requireVertex(b);
        if (weight < 0 || weight > MOST_WEIGHT) {
            throw new IllegalArgumentException("a weight is 0 to 1000000000");
        }
        if (graph.edges >= MOST_EDGES) {
            throw new IllegalStateException("there are 40 edges");
        }
        graph.addEdge(a, b, weight);
        forgetAnswers();
        return graph.edges - 1;
    }

    public int drop() throws IllegalStateException {
        if (graph.edges == 0) {
            throw new IllegalStateException("there is no edge");
        }
        graph.removeLastEdge();
        forgetAnswers();
        return graph.edges;
    }

    public long distance(int a, int b) throws IllegalArgumentException {
        requireVertex(a);
        requireVertex(b);
        distances.searchFrom(a, graph);
        return distances.reached[b] ? distances.cost[b] : NO_WALK;
    }

    public int tour(int start) throws IllegalArgumentException {
        requireVertex(start);
        if (graph.oddVertices() != 0) {
            return ODD_VERTEX;
        }
        useEachEdgeOnce();
        if (!graph.hangsTogetherAt(start, uses)) {
            return NO_TOUR;
        }
        writeLeastRow(start);
        return latestRow.length;
    }

    public long round(int start) throws IllegalArgumentException {
        requireVertex(start);
        useEachEdgeOnce();
        if (!graph.canBeCoveredFrom(start, uses)) {
            return NO_ROUND;
        }
        findExtras();
        long cost = 0;
        for (int e = 0; e < graph.edges; e++) {
            uses[e] = 1 + extras[e];
            cost += (long) uses[e] * graph.weight[e];
        }
        writeLeastRow(start);
        return cost;
    }

    public int extra(int e) throws NoSuchElementException, IllegalStateException {
        if (e < 0 || e >= graph.edges) {
            throw new NoSuchElementException("there is no such edge");
        }
        if (!extrasStand) {
            throw new IllegalStateException("there was no round since the graph last changed");
        }
        return extras[e];
    }

    public int row(int k) throws NoSuchElementException {
        if (k < 0 || k >= latestRow.length) {
            throw new NoSuchElementException("there is no such step of the row");
        }
        return latestRow.steps[k];
    }

    public int step(int number) throws IllegalStateException {
        if (path.isFull()) {
            throw new IllegalStateException("the path has 1000 steps");
        }
        path.append(number);
        return path.length;
    }

    public long judge(int start) throws IllegalArgumentException {
        requireVertex(start);
        long verdict = verdictOnPath(start);
        path.clear();
        return verdict;
    }

    public int look(int what) throws IllegalArgumentException {
        switch (what) {
            case 0:
                return graph.vertices;
            case 1:
                return graph.edges;
            case 2:
                return graph.directed ? 1 : 0;
            case 3:
                return latestRow.length;
            case 4:
                return Integer.bitCount(graph.oddVertices());
            case 5:
                return leastOf(graph.oddVertices());
            case 6:
                return path.length;
            case 7:
                useEachEdgeOnce();
                return graph.countRegions(uses);
            case 8:
                useEachEdgeOnce();
                return Integer.bitCount(graph.touchedBy(uses));
            default:
                throw new IllegalArgumentException("there is no such thing to look at");
        }
    }

    private void requireVertex(int v) {
        if (v < 0 || v >= graph.vertices) {
            throw new IllegalArgumentException("there is no such vertex");
        }
    }

    private void forgetAnswers() {
        latestRow.clear();
        extrasStand = false;
    }

    private void useEachEdgeOnce() {
        for (int e = 0; e < graph.edges; e++) {
            uses[e] = 1;
        }
    }

    private void findExtras() {
        if (graph.directed) {
            balancing.find(graph, distances, extras);
        } else {
            pairing.find(graph, distances, extras);
        }
        extrasStand = true;
    }

    /** Makes ROW the least closed walk that takes each edge as often as uses says, and uses that up. */
    private void writeLeastRow(int start) {
        latestRow.clear();
        int at = start;
        for (int k = 0; k < MOST_ROW_STEPS; k++) {
            int next = leastStepFrom(at);
            if (next < 0) {
                break;
            }
            latestRow.append(next);
            uses[next >> 1]--;
            at = graph.endOf(next);
        }
    }

    private int leastStepFrom(int at) {
        for (int s = 0; s < 2 * graph.edges; s++) {
            if (uses[s >> 1] > 0 && graph.isStepFrom(s, at) && leavesWhole(s)) {
                return s;
            }
        }
        return -1;
    }

    /**
     * Whether all uses that are left behind a step can still be walked from its end. The numbers
     * of ends at each vertex are right for that by themselves; only the hanging together is not.
     */
    private boolean leavesWhole(int s) {
        int e = s >> 1;
        if (uses[e] > 1) {
            return true;
        }
        uses[e]--;
        boolean whole = graph.hangsTogetherAt(graph.endOf(s), uses);
        uses[e]++;
        return whole;
    }

    private long verdictOnPath(int start) {
        Arrays.fill(uses, 0);
        int at = start;
        long cost = 0;
        for (int k = 0; k < path.length; k++) {
            int s = path.steps[k];
            if (!graph.isStepFrom(s, at)) {
                return NO_WALK;
            }
            uses[s >> 1]++;
            cost += graph.weight[s >> 1];
            at = graph.endOf(s);
        }
        if (at != start) {
            return NOT_CLOSED;
        }
        for (int e = 0; e < graph.edges; e++) {
            if (uses[e] == 0) {
                return NOT_COVERING;
            }
        }
        return cost;
    }

    /** The least vertex of a set that is held as bits; -1 of the empty one. */
    private static int leastOf(int set) {
        for (int v = 0; v < MOST_VERTICES; v++) {
            if ((set >> v & 1) == 1) {
                return v;
            }
        }
        return -1;
    }

    /** Steps one behind the other, in a place that is made once. */
    private static final class StepRow {
        final int[] steps;
        int length;

        StepRow(int most) {
            steps = new int[most];
            length = 0;
        }

        boolean isFull() {
            return length >= steps.length;
        }

        void append(int number) {
            if (!isFull()) {
                steps[length] = number;
                length++;
            }
        }

        void clear() {
            length = 0;
        }
    }

    /** Vertices and edges. Sets of vertices are bits of an int; an edge without uses counts as absent. */
    private static final class Graph {
        final int[] from;
        final int[] to;
        final int[] weight;
        boolean directed;
        int vertices;
        int edges;

        Graph() {
            from = new int[MOST_EDGES];
            to = new int[MOST_EDGES];
            weight = new int[MOST_EDGES];
            directed = false;
            vertices = 1;
            edges = 0;
        }

        void begin(boolean withDirection, int n) {
            directed = withDirection;
            vertices = n;
            edges = 0;
        }

        void addEdge(int a, int b, int itsWeight) {
            from[edges] = a;
            to[edges] = b;
            weight[edges] = itsWeight;
            edges++;
        }

        void removeLastEdge() {
            if (edges > 0) {
                edges--;
            }
        }

        boolean isStepFrom(int s, int at) {
            int e = s >> 1;
            if (e < 0 || e >= edges) {
                return false;
            }
            if ((s & 1) == 0) {
                return from[e] == at;
            }
            return !directed && from[e] != to[e] && to[e] == at;
        }

        int endOf(int s) {
            return (s & 1) == 0 ? to[s >> 1] : from[s >> 1];
        }

        /** How many edges more come to a vertex than go from it. */
        int surplusAt(int v) {
            int surplus = 0;
            for (int e = 0; e < edges; e++) {
                surplus += (to[e] == v ? 1 : 0) - (from[e] == v ? 1 : 0);
            }
            return surplus;
        }

        int oddVertices() {
            int odd = 0;
            for (int v = 0; v < vertices; v++) {
                int surplus = surplusAt(v);
                // Ends that come and ends that go are an odd number together just when their difference is odd.
                if (directed ? surplus != 0 : (surplus & 1) == 1) {
                    odd |= 1 << v;
                }
            }
            return odd;
        }

        int touchedBy(int[] uses) {
            int touched = 0;
            for (int e = 0; e < edges; e++) {
                if (uses[e] > 0) {
                    touched |= 1 << from[e] | 1 << to[e];
                }
            }
            return touched;
        }

        /** The vertices that can be come to from one, when edges may be taken along, against, or both ways. */
        int reachOf(int vertex, boolean along, boolean against, int[] uses) {
            int reach = 1 << vertex;
            for (int pass = 0; pass < MOST_VERTICES; pass++) {
                int before = reach;
                for (int e = 0; e < edges; e++) {
                    if (uses[e] > 0) {
                        if (along && (reach >> from[e] & 1) == 1) {
                            reach |= 1 << to[e];
                        }
                        if (against && (reach >> to[e] & 1) == 1) {
                            reach |= 1 << from[e];
                        }
                    }
                }
                if (reach == before) {
                    break;
                }
            }
            return reach;
        }

        boolean hangsTogetherAt(int vertex, int[] uses) {
            return (touchedBy(uses) & ~reachOf(vertex, true, true, uses)) == 0;
        }

        boolean canBeCoveredFrom(int vertex, int[] uses) {
            int touched = touchedBy(uses);
            return (touched & ~reachOf(vertex, true, !directed, uses)) == 0
                && (touched & ~reachOf(vertex, !directed, true, uses)) == 0;
        }

        int countRegions(int[] uses) {
            int rest = touchedBy(uses);
            int regions = 0;
            for (int v = 0; v < vertices; v++) {
                if ((rest >> v & 1) == 1) {
                    rest &= ~reachOf(v, true, true, uses);
                    regions++;
                }
            }
            return regions;
        }
    }

    /**
     * Least ways from one vertex. A way is dear by its cost first and then by its tie, a number
     * whose bits stand for the edges, edge 0 the highest, so that fewer uses of edge 0 count
     * before fewer uses of edge 1, and so on. A bit for each edge is enough though extras may be
     * many: what can be made less at all can be made less by changing each edge by one at most.
     */
    private static final class Distances {
        final boolean[] reached;
        final long[] cost;
        final long[] tie;
        final int[] lastStep;
        final int[] nothingToGiveBack;
        boolean changed;

        Distances() {
            reached = new boolean[MOST_VERTICES];
            cost = new long[MOST_VERTICES];
            tie = new long[MOST_VERTICES];
            lastStep = new int[MOST_VERTICES];
            nothingToGiveBack = new int[MOST_EDGES];
            changed = false;
        }

        void searchFrom(int source, Graph graph) {
            searchBesideExtras(source, graph, nothingToGiveBack);
        }

        /** In directed graphs a step 2 * e + 1 gives back one of the extras of edge e, and its dearness. */
        void searchBesideExtras(int source, Graph graph, int[] extras) {
            for (int v = 0; v < MOST_VERTICES; v++) {
                reached[v] = false;
            }
            reached[source] = true;
            cost[source] = 0;
            tie[source] = 0;
            changed = true;
            for (int pass = 0; pass < MOST_VERTICES && changed; pass++) {
                changed = false;
                for (int e = 0; e < graph.edges; e++) {
                    long itsTie = 1L << (MOST_EDGES - 1 - e);
                    tryStep(2 * e, graph.from[e], graph.to[e], graph.weight[e], itsTie);
                    if (!graph.directed) {
                        tryStep(2 * e + 1, graph.to[e], graph.from[e], graph.weight[e], itsTie);
                    } else if (extras[e] > 0) {
                        tryStep(2 * e + 1, graph.to[e], graph.from[e], -graph.weight[e], -itsTie);
                    }
                }
            }
        }

        void tryStep(int s, int a, int b, long itsCost, long itsTie) {
            if (!reached[a]) {
                return;
            }
            long newCost = cost[a] + itsCost;
            long newTie = tie[a] + itsTie;
            if (!reached[b] || isLess(newCost, newTie, cost[b], tie[b])) {
                reached[b] = true;
                cost[b] = newCost;
                tie[b] = newTie;
                lastStep[b] = s;
                changed = true;
            }
        }

        static boolean isLess(long costA, long tieA, long costB, long tieB) {
            return costA < costB || costA == costB && tieA < tieB;
        }
    }

    /**
     * Extras of a graph that is not directed: least ways between its odd vertices, two by two, of
     * the least dearness together. Always the least vertex of a set is paired first; of 16 that
     * leaves 1597 sets that can remain, each of which is met once.
     */
    private static final class Pairing {
        private static final int MOST_SETS = 1597;
        private static final int SLOT_BITS = 12;
        private static final int SLOTS = 1 << SLOT_BITS;
        private static final int SCATTER = 0x9E3779B1;

        final long[][] pairCost;
        final long[][] pairTie;
        final int[] sets;
        final long[] cost;
        final long[] tie;
        final int[] slots;
        int count;

        Pairing() {
            pairCost = new long[MOST_VERTICES][MOST_VERTICES];
            pairTie = new long[MOST_VERTICES][MOST_VERTICES];
            sets = new int[MOST_SETS];
            cost = new long[MOST_SETS];
            tie = new long[MOST_SETS];
            slots = new int[SLOTS];
            count = 0;
        }

        void find(Graph graph, Distances distances, int[] extras) {
            int odd = graph.oddVertices();
            measurePairs(odd, graph, distances);
            long doubled = tieOfLeastPairs(odd);
            // The least ways have no edge in common, so their ties together are the set of edges itself.
            for (int e = 0; e < graph.edges; e++) {
                extras[e] = (int) (doubled >> (MOST_EDGES - 1 - e) & 1);
            }
        }

        void measurePairs(int odd, Graph graph, Distances distances) {
            for (int a = 0; a < MOST_VERTICES; a++) {
                if ((odd >> a & 1) == 1) {
                    distances.searchFrom(a, graph);
                    System.arraycopy(distances.cost, 0, pairCost[a], 0, MOST_VERTICES);
                    System.arraycopy(distances.tie, 0, pairTie[a], 0, MOST_VERTICES);
                }
            }
        }

        long tieOfLeastPairs(int odd) {
            Arrays.fill(slots, 0);
            count = 0;
            offer(odd, 0, 0);
            // A set comes behind all that are greater than it, so its dearness is final when it is met.
            for (int i = 0; i < count && i < MOST_SETS; i++) {
                if (sets[i] == 0) {
                    return tie[i];
                }
                pairLeastVertex(i);
            }
            return 0;
        }

        void pairLeastVertex(int i) {
            int a = leastOf(sets[i]);
            int others = sets[i] & ~(1 << a);
            for (int b = a + 1; b < MOST_VERTICES; b++) {
                if ((others >> b & 1) == 1) {
                    offer(others & ~(1 << b), cost[i] + pairCost[a][b], tie[i] + pairTie[a][b]);
                }
            }
        }

        void offer(int set, long itsCost, long itsTie) {
            int slot = slotOf(set);
            int i = slots[slot] - 1;
            if (i < 0) {
                if (count >= MOST_SETS) {
                    return;
                }
                i = count;
                count++;
                slots[slot] = count;
                sets[i] = set;
            } else if (!Distances.isLess(itsCost, itsTie, cost[i], tie[i])) {
                return;
            }
            cost[i] = itsCost;
            tie[i] = itsTie;
        }

        /** The slot that holds a set, or the free one where it belongs. A slot holds 1 + the set's place. */
        int slotOf(int set) {
            int slot = set * SCATTER >>> (32 - SLOT_BITS);
            for (int tries = 0; tries < SLOTS; tries++) {
                if (slots[slot] == 0 || sets[slots[slot] - 1] == set) {
                    break;
                }
                slot = (slot + 1) & (SLOTS - 1);
            }
            return slot;
        }
    }

    /**
     * Extras of a directed graph: from each vertex that more edges come to than go from, extra
     * passages to one where it is the other way round, each the least that the passages before
     * it leave (which may give back what they took), so that all together are the least.
     */
    private static final class Balancing {
        final int[] surplus;

        Balancing() {
            surplus = new int[MOST_VERTICES];
        }

        void find(Graph graph, Distances distances, int[] extras) {
            Arrays.fill(extras, 0);
            for (int v = 0; v < graph.vertices; v++) {
                surplus[v] = graph.surplusAt(v);
            }
            for (int passage = 0; passage < MOST_EDGES; passage++) {
                int source = leastWithSign(1, graph.vertices);
                int sink = leastWithSign(-1, graph.vertices);
                if (source < 0 || sink < 0) {
                    break;
                }
                distances.searchBesideExtras(source, graph, extras);
                addPassage(source, sink, graph, distances, extras);
                surplus[source]--;
                surplus[sink]++;
            }
        }

        int leastWithSign(int sign, int vertices) {
            for (int v = 0; v < vertices; v++) {
                if (surplus[v] * sign > 0) {
                    return v;
                }
            }
            return -1;
        }

        void addPassage(int source, int sink, Graph graph, Distances distances, int[] extras) {
            int at = sink;
            for (int hop = 0; hop < MOST_VERTICES && at != source; hop++) {
                int s = distances.lastStep[at];
                int e = s >> 1;
                if ((s & 1) == 0) {
                    extras[e]++;
                    at = graph.from[e];
                } else {
                    extras[e]--;
                    at = graph.to[e];
                }
            }
        }
    }
}

import java.math.BigInteger;
import java.util.Arrays;
import java.util.Random;

/**
 * Promises 6, 7 and 8 in graphs of up to 16 vertices and 40 edges. That the extras are the least
 * ones is held against other ways to know it than the program's: not directed, the best choice of
 * edges for every set of odd vertices, edge by edge; directed, that no ring of changes makes the
 * extras less. That the row is the least one: at no place could a lesser step be completed.
 */
public final class LargeRoundsTest {
    private final Random random;
    private final boolean directed;
    private final int n;
    private final int m;
    private final int[][] edges;
    private final TourHouse x = new TourHouse();
    private final String name;

    private LargeRoundsTest(int seed, boolean directed, int n, int m) {
        random = new Random(seed);
        this.directed = directed;
        this.n = n;
        this.m = m;
        edges = new int[m][];
        name = "graph " + seed + (directed ? ", directed" : "") + ": ";
        build();
    }

    public static void main(String[] args) {
        for (int seed = 0; seed < 60; seed++) {
            int n = seed % 3 == 0 ? 16 : 2 + seed % 15;
            new LargeRoundsTest(seed, false, n, 40).checkAll();
            new LargeRoundsTest(seed, true, n, 40).checkAll();
        }
        for (int seed = 100; seed < 130; seed++) {
            new LargeRoundsTest(seed, false, 12 + seed % 5, 16 + seed % 10).checkAll();
            new LargeRoundsTest(seed, true, 12 + seed % 5, 17 + seed % 10).checkAll();
        }
        everyVertexOdd();
        Checks.finish();
    }

    /** A ring through all vertices, so that a round there is, and chance edges; in chance order. */
    private void build() {
        int[] most = {1, 2, 5, 1_000_000_001};
        int bound = most[random.nextInt(4)];
        boolean lopsided = random.nextBoolean();
        for (int e = 0; e < m; e++) {
            int a = e < n ? e : random.nextInt(lopsided ? Math.max(1, n / 2) : n);
            int b = e < n ? (e + 1) % n : lopsided ? n - 1 - random.nextInt(Math.max(1, n / 2)) : random.nextInt(n);
            edges[e] = new int[] {a, b, random.nextInt(bound)};
        }
        for (int e = m - 1; e > 0; e--) {
            int other = random.nextInt(e + 1);
            int[] kept = edges[e];
            edges[e] = edges[other];
            edges[other] = kept;
        }
        x.reset(directed, n);
        for (int[] e : edges) {
            x.edge(e[0], e[1], e[2]);
        }
    }

    private void checkAll() {
        int start = random.nextInt(n);
        long cost = x.round(start);
        int[] uses = new int[m];
        long due = 0;
        for (int e = 0; e < m; e++) {
            uses[e] = 1 + x.extra(e);
            due += (long) uses[e] * edges[e][2];
        }
        Checks.due(name + "cost", cost, due);
        if (directed) {
            checkNoRingOfChanges(uses);
        } else {
            checkLeastDoubling(uses);
        }
        checkLeastRow(start, uses);
        int[] once = new int[m];
        Arrays.fill(once, 1);
        int steps = x.tour(start);
        Checks.due(name + "tour", steps, x.look(4) == 0 ? m : -2);
        if (steps >= 0) {
            checkLeastRow(start, once);
        }
    }

    /** For each set of vertices the least choice of edges that has an odd number of ends just there. */
    private void checkLeastDoubling(int[] uses) {
        long[] cost = new long[1 << n];
        long[] mask = new long[1 << n];
        Arrays.fill(cost, Long.MAX_VALUE);
        cost[0] = 0;
        int odd = 0;
        for (int e = 0; e < m; e++) {
            int flip = 1 << edges[e][0] ^ 1 << edges[e][1];
            odd ^= flip;
            if (flip != 0) {
                takeOrLeave(cost, mask, flip, edges[e][2], 1L << (m - 1 - e));
            }
        }
        for (int e = 0; e < m; e++) {
            Checks.due(name + "uses of edge " + e, uses[e], 1 + (mask[odd] >> (m - 1 - e) & 1));
        }
    }

    private static void takeOrLeave(long[] cost, long[] mask, int flip, long weight, long bit) {
        long[] oldCost = cost.clone();
        long[] oldMask = mask.clone();
        for (int set = 0; set < cost.length; set++) {
            int before = set ^ flip;
            if (oldCost[before] == Long.MAX_VALUE) {
                continue;
            }
            long newCost = oldCost[before] + weight;
            long newMask = oldMask[before] | bit;
            if (newCost < cost[set] || newCost == cost[set] && newMask < mask[set]) {
                cost[set] = newCost;
                mask[set] = newMask;
            }
        }
    }

    private void checkNoRingOfChanges(int[] uses) {
        int[] balance = new int[n];
        for (int e = 0; e < m; e++) {
            balance[edges[e][0]] -= uses[e];
            balance[edges[e][1]] += uses[e];
        }
        Checks.due(name + "balance", Arrays.toString(balance), Arrays.toString(new int[n]));
        BigInteger[] label = new BigInteger[n];
        Arrays.fill(label, BigInteger.ZERO);
        boolean changed = true;
        for (int pass = 0; pass < n + 1 && changed; pass++) {
            changed = false;
            for (int e = 0; e < m; e++) {
                // Base 128 is far above how often a ring of changes can use one edge.
                BigInteger dear = BigInteger.valueOf(edges[e][2]).shiftLeft(7 * m).add(BigInteger.ONE.shiftLeft(7 * (m - 1 - e)));
                changed |= lower(label, edges[e][0], edges[e][1], dear);
                if (uses[e] > 1) {
                    changed |= lower(label, edges[e][1], edges[e][0], dear.negate());
                }
            }
        }
        Checks.due(name + "extras can be less", changed, false);
    }

    private static boolean lower(BigInteger[] label, int a, int b, BigInteger by) {
        BigInteger sum = label[a].add(by);
        if (sum.compareTo(label[b]) < 0) {
            label[b] = sum;
            return true;
        }
        return false;
    }

    private void checkLeastRow(int start, int[] uses) {
        int[] left = uses.clone();
        int at = start;
        Checks.due(name + "steps", x.look(3), Arrays.stream(uses).sum());
        for (int k = 0; k < x.look(3); k++) {
            int s = x.row(k);
            for (int lesser = 0; lesser < s; lesser++) {
                if (goesFrom(lesser, at) && left[lesser / 2] > 0) {
                    left[lesser / 2]--;
                    Checks.due(name + "a lesser step at " + k, completes(end(lesser), start, left), false);
                    left[lesser / 2]++;
                }
            }
            Checks.due(name + "a step at " + k, goesFrom(s, at) && left[s / 2] > 0, true);
            left[s / 2]--;
            at = end(s);
        }
        Checks.due(name + "end", at, start);
    }

    private boolean goesFrom(int s, int at) {
        int[] e = edges[s / 2];
        return s % 2 == 0 ? e[0] == at : !directed && e[0] != e[1] && e[1] == at;
    }

    private int end(int s) {
        return edges[s / 2][1 - s % 2];
    }

    /** Walks on till it is stuck at its goal, then lets walks in where something is left, as Hierholzer does. */
    private boolean completes(int from, int goal, int[] uses) {
        int[] left = uses.clone();
        boolean[] met = new boolean[n];
        int at = from;
        met[at] = true;
        boolean more = true;
        while (more) {
            at = walkTillStuck(at, left, met);
            if (!met[goal]) {
                return false;
            }
            more = false;
            for (int e = 0; e < m && !more; e++) {
                int entry = left[e] == 0 ? -1 : met[edges[e][0]] ? edges[e][0] : met[edges[e][1]] ? edges[e][1] : -1;
                if (entry >= 0) {
                    at = entry;
                    more = true;
                }
            }
        }
        return Arrays.stream(left).sum() == 0 && met[goal];
    }

    private int walkTillStuck(int from, int[] left, boolean[] met) {
        int at = from;
        for (int s = 0; s < 2 * m; s++) {
            if (left[s / 2] > 0 && goesFrom(s, at)) {
                left[s / 2]--;
                at = end(s);
                met[at] = true;
                s = -1;
            }
        }
        return at;
    }

    /** 16 odd vertices, all weights the same: as many ways to pair as there can be. */
    private static void everyVertexOdd() {
        TourHouse x = new TourHouse();
        x.reset(false, 16);
        for (int v = 0; v < 16; v++) {
            x.edge(v, (v + 1) % 16, 3);
        }
        for (int v = 0; v < 8; v++) {
            x.edge(v, v + 8, 3);
        }
        Checks.due("look(4)", x.look(4), 16);
        Checks.due("round(0)", x.round(0), 3 * 24 + 3 * 8);
        StringBuilder due = new StringBuilder();
        for (int e = 0; e < 24; e++) {
            due.append(e == 0 ? "" : " ").append(e < 16 ? 0 : 1);
        }
        Checks.due("extras", Checks.extrasOf(x), due.toString());
    }
}

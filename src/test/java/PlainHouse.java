import java.util.ArrayList;
import java.util.Arrays;
import java.util.Comparator;
import java.util.HashSet;
import java.util.List;
import java.util.NoSuchElementException;
import java.util.Set;

/** The document's words, taken straight: all is found by trying everything. For few edges only. */
final class PlainHouse {
    private boolean directed = false;
    private int n = 1;
    private final List<int[]> edges = new ArrayList<>();
    private List<Integer> row = new ArrayList<>();
    private final List<Integer> path = new ArrayList<>();
    private int[] roundUses = null;

    int reset(boolean withDirection, int vertices) {
        if (vertices < 1 || vertices > 16) {
            throw new IllegalArgumentException();
        }
        int old = edges.size();
        edges.clear();
        directed = withDirection;
        n = vertices;
        graphChanged();
        return old;
    }

    int edge(int a, int b, int weight) {
        vertex(a);
        vertex(b);
        if (weight < 0 || weight > 1_000_000_000) {
            throw new IllegalArgumentException();
        }
        if (edges.size() == 40) {
            throw new IllegalStateException();
        }
        edges.add(new int[] {a, b, weight});
        graphChanged();
        return edges.size() - 1;
    }

    int drop() {
        if (edges.isEmpty()) {
            throw new IllegalStateException();
        }
        edges.remove(edges.size() - 1);
        graphChanged();
        return edges.size();
    }

    long distance(int a, int b) {
        vertex(a);
        vertex(b);
        long best = cheapest(a, b, new boolean[16]);
        return best == Long.MAX_VALUE ? -1 : best;
    }

    int tour(int start) {
        vertex(start);
        if (!oddVertices().isEmpty()) {
            return -2;
        }
        int[] once = new int[edges.size()];
        Arrays.fill(once, 1);
        List<Integer> found = leastClosedWalk(start, once);
        if (found == null) {
            return -1;
        }
        row = found;
        return row.size();
    }

    long round(int start) {
        vertex(start);
        List<int[]> all = new ArrayList<>();
        addUses(all, new int[edges.size()], 0, directed ? Math.max(1, edges.size()) : 3);
        Comparator<int[]> byCost = Comparator.comparingLong(this::costOf);
        all.sort(byCost.thenComparing(Arrays::compare));
        for (int[] uses : all) {
            List<Integer> found = mayClose(uses) ? leastClosedWalk(start, uses) : null;
            if (found != null) {
                row = found;
                roundUses = uses;
                return costOf(uses);
            }
        }
        return -1;
    }

    int extra(int e) {
        if (e < 0 || e >= edges.size()) {
            throw new NoSuchElementException();
        }
        if (roundUses == null) {
            throw new IllegalStateException();
        }
        return roundUses[e] - 1;
    }

    int row(int k) {
        if (k < 0 || k >= row.size()) {
            throw new NoSuchElementException();
        }
        return row.get(k);
    }

    int step(int number) {
        if (path.size() == 1000) {
            throw new IllegalStateException();
        }
        path.add(number);
        return path.size();
    }

    long judge(int start) {
        vertex(start);
        List<Integer> walk = new ArrayList<>(path);
        path.clear();
        int at = start;
        long cost = 0;
        Set<Integer> used = new HashSet<>();
        for (int s : walk) {
            if (!stepsFrom(at).contains(s)) {
                return -1;
            }
            at = endOf(s);
            cost += edges.get(s / 2)[2];
            used.add(s / 2);
        }
        return at != start ? -2 : used.size() < edges.size() ? -3 : cost;
    }

    int look(int what) {
        List<Integer> odd = oddVertices();
        int[] due = {n, edges.size(), directed ? 1 : 0, row.size(), odd.size(), odd.isEmpty() ? -1 : odd.get(0),
            path.size(), setsOfEdges(), verticesWithEdge()};
        if (what < 0 || what >= due.length) {
            throw new IllegalArgumentException();
        }
        return due[what];
    }

    private void vertex(int v) {
        if (v < 0 || v >= n) {
            throw new IllegalArgumentException();
        }
    }

    private void graphChanged() {
        row = new ArrayList<>();
        roundUses = null;
    }

    private List<Integer> stepsFrom(int at) {
        List<Integer> steps = new ArrayList<>();
        for (int e = 0; e < edges.size(); e++) {
            int[] ends = edges.get(e);
            if (ends[0] == at) {
                steps.add(2 * e);
            } else if (ends[1] == at && !directed) {
                steps.add(2 * e + 1);
            }
        }
        return steps;
    }

    private int endOf(int s) {
        return edges.get(s / 2)[1 - s % 2];
    }

    private long costOf(int[] uses) {
        long cost = 0;
        for (int e = 0; e < uses.length; e++) {
            cost += (long) uses[e] * edges.get(e)[2];
        }
        return cost;
    }

    private void addUses(List<int[]> all, int[] uses, int e, int most) {
        if (e == uses.length) {
            all.add(uses.clone());
            return;
        }
        for (uses[e] = 1; uses[e] <= most; uses[e]++) {
            addUses(all, uses, e + 1, most);
        }
    }

    /** A closed walk comes to each vertex as often as it goes from there; without that none need be tried. */
    private boolean mayClose(int[] uses) {
        int[] ends = new int[16];
        for (int e = 0; e < uses.length; e++) {
            ends[edges.get(e)[0]] += uses[e];
            ends[edges.get(e)[1]] += directed ? -uses[e] : uses[e];
        }
        return Arrays.stream(ends).allMatch(count -> directed ? count == 0 : count % 2 == 0);
    }

    private List<Integer> leastClosedWalk(int start, int[] uses) {
        List<Integer> walk = new ArrayList<>();
        int left = Arrays.stream(uses).sum();
        return complete(start, start, uses.clone(), left, walk, new HashSet<>()) ? walk : null;
    }

    private boolean complete(int at, int start, int[] uses, int left, List<Integer> walk, Set<String> failed) {
        if (left == 0) {
            return at == start;
        }
        String state = at + Arrays.toString(uses);
        if (failed.contains(state)) {
            return false;
        }
        for (int s : stepsFrom(at)) {
            if (uses[s / 2] > 0) {
                uses[s / 2]--;
                walk.add(s);
                if (complete(endOf(s), start, uses, left - 1, walk, failed)) {
                    return true;
                }
                walk.remove(walk.size() - 1);
                uses[s / 2]++;
            }
        }
        failed.add(state);
        return false;
    }

    private long cheapest(int at, int goal, boolean[] passed) {
        if (at == goal) {
            return 0;
        }
        passed[at] = true;
        long best = Long.MAX_VALUE;
        for (int s : stepsFrom(at)) {
            if (!passed[endOf(s)]) {
                long rest = cheapest(endOf(s), goal, passed);
                best = rest == Long.MAX_VALUE ? best : Math.min(best, edges.get(s / 2)[2] + rest);
            }
        }
        passed[at] = false;
        return best;
    }

    private List<Integer> oddVertices() {
        List<Integer> odd = new ArrayList<>();
        for (int v = 0; v < n; v++) {
            int first = 0;
            int second = 0;
            for (int[] ends : edges) {
                first += ends[0] == v ? 1 : 0;
                second += ends[1] == v ? 1 : 0;
            }
            if (directed ? first != second : (first + second) % 2 != 0) {
                odd.add(v);
            }
        }
        return odd;
    }

    private int setsOfEdges() {
        List<Set<Integer>> sets = new ArrayList<>();
        for (int[] ends : edges) {
            Set<Integer> joined = new HashSet<>(Set.of(ends[0]));
            joined.add(ends[1]);
            for (int i = sets.size() - 1; i >= 0; i--) {
                if (sets.get(i).contains(ends[0]) || sets.get(i).contains(ends[1])) {
                    joined.addAll(sets.remove(i));
                }
            }
            sets.add(joined);
        }
        return sets.size();
    }

    private int verticesWithEdge() {
        Set<Integer> met = new HashSet<>();
        for (int[] ends : edges) {
            met.add(ends[0]);
            met.add(ends[1]);
        }
        return met.size();
    }
}

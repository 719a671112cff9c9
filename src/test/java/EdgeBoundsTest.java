import java.util.function.Supplier;

/** The boundary cases of promise 3. Each method quotes its sentence. */
public final class EdgeBoundsTest {
    public static void main(String[] args) {
        for (boolean directed : Bounds.BOTH) {
            for (int n : new int[] {1, 2, 15, 16}) {
                noSuchVertex(directed, n);
            }
            weightAsTold(directed);
            fortyEdges(directed);
            itsNumber(directed);
            rowIsEmptyBehindIt(directed);
        }
        Checks.finish();
    }

    /** "Throws IllegalArgumentException when there is no such vertex". */
    private static void noSuchVertex(boolean directed, int n) {
        int[][] within = {{0, 0}, {0, n - 1}, {n - 1, 0}, {n - 1, n - 1}};
        for (int[] w : within) {
            TourHouse x = Checks.graph(directed, n);
            Checks.due("edge(" + w[0] + ", " + w[1] + ", 1) of " + n, x.edge(w[0], w[1], 1), 0);
            Checks.due("distance along it", x.distance(w[0], w[1]), w[0] == w[1] ? 0 : 1);
            Checks.due("look(8)", x.look(8), w[0] == w[1] ? 1 : 2);
        }
        Supplier<TourHouse> busy = () -> Bounds.busy(directed, n);
        Supplier<TourHouse> empty = () -> Checks.graph(directed, n);
        for (int v : Bounds.outside(0, n - 1)) {
            int[][] wrong = {{v, 0}, {v, n - 1}, {0, v}, {n - 1, v}, {v, v}};
            for (int[] w : wrong) {
                String call = "edge(" + w[0] + ", " + w[1] + ", 1) of " + n;
                Bounds.refused(call, busy, Bounds.ARGUMENT, x -> x.edge(w[0], w[1], 1));
                Bounds.refused(call, empty, Bounds.ARGUMENT, x -> x.edge(w[0], w[1], 1));
            }
            Bounds.refused("edge(" + v + ", 0, -1) of " + n, busy, Bounds.ARGUMENT, x -> x.edge(v, 0, -1));
        }
    }

    /** "Throws IllegalArgumentException when ... the weight is not as told". */
    private static void weightAsTold(boolean directed) {
        for (int weight : new int[] {0, 1, 256, 65536, 999999999, 1000000000}) {
            TourHouse x = Bounds.busy(directed, 2);
            Checks.due("edge(1, 1, " + weight + ")", x.edge(1, 1, weight), 4);
            Checks.due("its weight", x.round(0), (directed ? 1000000019L : 1000000012L) + weight);
        }
        for (int weight : Bounds.outside(0, 1000000000)) {
            String call = "edge(0, 1, " + weight + ")";
            Bounds.refused(call, () -> Bounds.busy(directed, 2), Bounds.ARGUMENT, x -> x.edge(0, 1, weight));
            Bounds.refused(call, () -> Checks.graph(directed, 2), Bounds.ARGUMENT, x -> x.edge(0, 1, weight));
        }
    }

    /** "IllegalStateException when there are 40." */
    private static void fortyEdges(boolean directed) {
        TourHouse x = Bounds.full(directed);
        Checks.due("drop()", x.drop(), 39);
        Checks.due("edge(15, 0, 1000000000), the fortieth", x.edge(15, 0, 1000000000), 39);
        Supplier<TourHouse> full = () -> Bounds.full(directed);
        Bounds.refused("edge(0, 0, 0) with 40", full, Bounds.STATE, y -> y.edge(0, 0, 0));
        Bounds.refused("edge(15, 15, 1000000000) with 40", full, Bounds.STATE, y -> y.edge(15, 15, 1000000000));
        for (int w : Bounds.outside(0, 15)) {
            Bounds.refused("edge(" + w + ", 0, 0) with 40", full, Bounds.ARGUMENT, y -> y.edge(w, 0, 0));
            Bounds.refused("edge(0, " + w + ", 0) with 40", full, Bounds.ARGUMENT, y -> y.edge(0, w, 0));
        }
        for (int w : Bounds.outside(0, 1000000000)) {
            Bounds.refused("edge(0, 0, " + w + ") with 40", full, Bounds.ARGUMENT, y -> y.edge(0, 0, w));
        }
        TourHouse again = Bounds.full(directed);
        Checks.due("reset", again.reset(directed, 16), 40);
        Checks.due("edge(0, 0, 0) behind reset", again.edge(0, 0, 0), 0);
    }

    /** "One edge more, from a to b: its number." */
    private static void itsNumber(boolean directed) {
        TourHouse x = Checks.graph(directed, 2);
        for (int e = 0; e < 40; e++) {
            Checks.due("edge " + e, x.edge(0, 1, 40 - e), e);
            Checks.due("look(1)", x.look(1), e + 1);
            Checks.due("distance(0, 1)", x.distance(0, 1), 40 - e);
        }
        x.drop();
        x.drop();
        Checks.due("edge behind two drops", x.edge(0, 1, 9), 38);
        Checks.due("distance(0, 1) behind two drops", x.distance(0, 1), 3);
    }

    /** "(ROW is empty when the graph changes; PATH stays.)" */
    private static void rowIsEmptyBehindIt(boolean directed) {
        TourHouse x = Bounds.busy(directed, 2);
        Checks.due("look(3) before", x.look(3), 5);
        x.edge(0, 0, 0);
        Checks.due("look(3) behind an edge", x.look(3), 0);
        Checks.due("look(6) behind an edge", x.look(6), 5);
        x.drop();
        Checks.due("judge(0) of the PATH that stayed", x.judge(0), 1000000019);
    }
}

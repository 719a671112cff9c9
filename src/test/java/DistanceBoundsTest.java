import java.util.function.Supplier;

/** The boundary cases of promise 5. Each method quotes its sentence. */
public final class DistanceBoundsTest {
    public static void main(String[] args) {
        for (boolean directed : Bounds.BOTH) {
            withoutOne(directed);
            fromAVertexToItself(directed);
            leastAndGreatestCost(directed);
            theLeastOfSeveral(directed);
            changesNothing(directed);
            for (int n : new int[] {1, 2, 15, 16}) {
                noSuchVertex(directed, n);
            }
        }
        Checks.finish();
    }

    /** "-1 without one". */
    private static void withoutOne(boolean directed) {
        TourHouse x = Checks.graph(directed, 16);
        Checks.due("distance(0, 15) without edges", x.distance(0, 15), -1);
        x.edge(0, 0, 1);
        x.edge(15, 15, 1);
        Checks.due("distance(0, 15) with loops alone", x.distance(0, 15), -1);
        x.edge(0, 7, 1);
        x.edge(8, 15, 1);
        Checks.due("distance(0, 15) with a gap", x.distance(0, 15), -1);
        x.edge(8, 7, 1);
        Checks.due("distance(0, 15) with an edge against", x.distance(0, 15), directed ? -1 : 3);
        Checks.due("distance(15, 0)", x.distance(15, 0), directed ? -1 : 3);
        x.edge(7, 8, 1);
        Checks.due("distance(0, 15)", x.distance(0, 15), 3);
        Checks.due("distance(15, 0)", x.distance(15, 0), directed ? -1 : 3);
        Checks.due("distance(0, 1)", x.distance(0, 1), -1);
        Checks.due("distance(1, 0)", x.distance(1, 0), -1);
    }

    /** "The least cost of a walk from a to b": the empty one is a walk from a vertex to itself. */
    private static void fromAVertexToItself(boolean directed) {
        TourHouse x = Checks.graph(directed, 16, 3, 3, 5, 4, 5, 1);
        for (int v = 0; v < 16; v++) {
            Checks.due("distance(" + v + ", " + v + ")", x.distance(v, v), 0);
        }
    }

    /** "The least cost of a walk from a to b": 0 is a cost and not "without one"; 15 edges are the most. */
    private static void leastAndGreatestCost(boolean directed) {
        TourHouse x = Checks.graph(directed, 2, 0, 1, 0);
        Checks.due("distance(0, 1) of weight 0", x.distance(0, 1), 0);
        Checks.due("distance(1, 0) of weight 0", x.distance(1, 0), directed ? -1 : 0);
        TourHouse heavy = Checks.graph(directed, 16);
        TourHouse turned = Checks.graph(directed, 16);
        for (int v = 0; v < 15; v++) {
            heavy.edge(v, v + 1, 1000000000);
            turned.edge(15 - v, 14 - v, 1000000000);
        }
        Checks.due("distance(0, 15) of 15 heavy edges", heavy.distance(0, 15), 15000000000L);
        Checks.due("distance(15, 0) of 15 heavy edges", turned.distance(15, 0), 15000000000L);
        Checks.due("distance(15, 0) against them", heavy.distance(15, 0), directed ? -1 : 15000000000L);
        Checks.due("distance(0, 15) against them", turned.distance(0, 15), directed ? -1 : 15000000000L);
    }

    /** "The least cost of a walk from a to b": over many edges sooner than over one that costs 1 more. */
    private static void theLeastOfSeveral(boolean directed) {
        TourHouse x = Checks.graph(directed, 16, 0, 15, 16);
        for (int v = 14; v >= 0; v--) {
            x.edge(v, v + 1, 1);
        }
        Checks.due("distance(0, 15) over 15 edges", x.distance(0, 15), 15);
        x.edge(0, 15, 15);
        Checks.due("distance(0, 15), two ways alike", x.distance(0, 15), 15);
        x.edge(0, 15, 14);
        Checks.due("distance(0, 15) over the last edge", x.distance(0, 15), 14);
    }

    private static void changesNothing(boolean directed) {
        TourHouse x = Bounds.busy(directed, 3);
        String before = Checks.stateOf(x);
        x.distance(0, 1);
        x.distance(2, 0);
        Checks.due("behind distance", Checks.stateOf(x), before);
        Checks.due("judge(0) behind distance", x.judge(0), 1000000019);
    }

    /** "Throws IllegalArgumentException when there is no such vertex." */
    private static void noSuchVertex(boolean directed, int n) {
        Supplier<TourHouse> busy = () -> Bounds.busy(directed, n);
        Checks.due("distance(0, n - 1)", busy.get().distance(0, n - 1), 0);
        Checks.due("distance(n - 1, 0)", busy.get().distance(n - 1, 0), directed && n > 1 ? 7 : 0);
        for (int v : Bounds.outside(0, n - 1)) {
            Bounds.refused("distance(" + v + ", 0)", busy, Bounds.ARGUMENT, x -> x.distance(v, 0));
            Bounds.refused("distance(n - 1, " + v + ")", busy, Bounds.ARGUMENT, x -> x.distance(n - 1, v));
            Bounds.refused("distance(" + v + ", " + v + ")", busy, Bounds.ARGUMENT, x -> x.distance(v, v));
        }
    }
}

import java.util.function.Supplier;

/** The boundary cases of promise 7. Each method quotes its sentence. */
public final class RoundBoundsTest {
    public static void main(String[] args) {
        for (boolean directed : Bounds.BOTH) {
            fromThereNoneCovers(directed);
            costOfNothing(directed);
            rowBecomesTheRound(directed);
            for (int n : new int[] {1, 2, 15, 16}) {
                noSuchVertex(directed, n);
            }
        }
        oneWayOnly();
        greatestCostNotDirected();
        greatestCostDirected();
        Checks.finish();
    }

    /** "-1 when no closed walk from there covers (ROW stays)". */
    private static void fromThereNoneCovers(boolean directed) {
        TourHouse x = Checks.graph(directed, 16, 0, 1, 1, 1, 0, 2);
        for (int v = 2; v < 16; v++) {
            Checks.due("round(" + v + "), no edge there, ROW empty", x.round(v), -1);
            Checks.due("look(3) behind -1", x.look(3), 0);
        }
        Checks.due("round(1)", x.round(1), 3);
        String row = Checks.rowOf(x);
        x.step(7);
        for (int v = 2; v < 16; v++) {
            Checks.due("round(" + v + "), no edge there", x.round(v), -1);
        }
        Checks.due("row behind -1", Checks.rowOf(x), row);
        Checks.due("its length", row.split(" ").length, 2);
        Checks.due("look(6) behind -1", x.look(6), 1);
        x.edge(15, 15, 0);
        for (int v = 0; v < 16; v++) {
            Checks.due("round(" + v + ") of two sets apart", x.round(v), -1);
        }
        x.edge(1, 15, 0);
        Checks.due("round(0), there but not back", x.round(0), directed ? -1 : 3);
        x.edge(15, 1, 0);
        Checks.due("round(0), there and back", x.round(0), 3);
        Checks.due("round(15), there and back", x.round(15), 3);
    }

    /** The same in directed graphs: an edge that can't be come to, and one that can't be come back from. */
    private static void oneWayOnly() {
        int[] edges = {0, 1, 1, 1, 2, 1, 2, 1, 1};
        TourHouse x = Checks.graph(true, 3, edges);
        for (int v = 0; v < 3; v++) {
            Checks.due("round(" + v + ") with a way in alone", x.round(v), -1);
        }
        int[] turned = {1, 0, 1, 2, 1, 1, 1, 2, 1};
        TourHouse y = Checks.graph(true, 3, turned);
        for (int v = 0; v < 3; v++) {
            Checks.due("round(" + v + ") with a way out alone", y.round(v), -1);
        }
        Checks.due("the same not directed", Checks.graph(false, 3, edges).round(0), 4);
        Checks.due("the same turned, not directed", Checks.graph(false, 3, turned).round(0), 4);
        TourHouse one = Checks.graph(true, 2, 0, 1, 1);
        Checks.due("round(0) of one edge", one.round(0), -1);
        Checks.due("round(1) of one edge", one.round(1), -1);
        TourHouse both = Checks.graph(true, 2, 0, 1, 1, 0, 1, 1);
        Checks.due("round(0) of two edges away", both.round(0), -1);
        both.edge(1, 0, 1);
        Bounds.dueRound("of two away, one back", both, 0, 4, "0 0 1", "0 4 2 4");
    }

    /** "its cost": 0 of no edge and of edges of weight 0, which is not -1. */
    private static void costOfNothing(boolean directed) {
        TourHouse x = Checks.graph(directed, 16);
        for (int v = 0; v < 16; v++) {
            Checks.due("round(" + v + ") without edges", x.round(v), 0);
            Checks.due("look(3)", x.look(3), 0);
        }
        x.edge(0, 15, 0);
        x.edge(15, 0, 0);
        x.edge(0, 15, 0);
        Bounds.dueRound("of weight 0", x, 0, 0, directed ? "0 1 0" : "0 0 1", directed ? "0 2 4 2" : "0 2 4 5");
        TourHouse loop = Checks.graph(directed, 1, 0, 0, 0);
        Bounds.dueRound("of one loop", loop, 0, 0, "0", "0");
    }

    /** "its cost": the greatest ones, far above an int. */
    private static void greatestCostNotDirected() {
        // A tree is needed twice as a whole, and no set of 16 vertices needs more than 15 edges twice.
        TourHouse tree = Checks.graph(false, 16);
        for (int v = 0; v < 15; v++) {
            tree.edge(v, v + 1, Bounds.HEAVY);
        }
        Checks.due("round(0) of a path of 15 edges", tree.round(0), 30L * Bounds.HEAVY);
        Checks.due("look(3)", tree.look(3), 30);
        Checks.due("row(0)", tree.row(0), 0);
        Checks.due("row(29)", tree.row(29), 1);
        for (int e = 15; e < 40; e++) {
            tree.edge(15, 15, Bounds.HEAVY);
        }
        Checks.due("round(0) with 25 loops", tree.round(0), 55L * Bounds.HEAVY);
        Checks.due("look(3)", tree.look(3), 55);
        Checks.due("row(15)", tree.row(15), 30);
        Checks.due("row(39)", tree.row(39), 78);
        Checks.due("row(40)", tree.row(40), 29);
    }

    /** "its cost": 25 times over the same 15 edges. */
    private static void greatestCostDirected() {
        TourHouse x = Checks.graph(true, 16);
        for (int v = 0; v < 15; v++) {
            x.edge(v, v + 1, Bounds.HEAVY);
        }
        for (int e = 15; e < 40; e++) {
            x.edge(15, 0, Bounds.HEAVY);
        }
        for (int start : new int[] {0, 8, 15}) {
            Checks.due("round(" + start + ") of 400 steps", x.round(start), 400L * Bounds.HEAVY);
            Checks.due("look(3)", x.look(3), 400);
        }
        Checks.due("row(0) from 15", x.row(0), 30);
        Checks.due("row(399) from 15", x.row(399), 28);
        for (int e = 0; e < 40; e++) {
            Checks.due("extra(" + e + ")", x.extra(e), e < 15 ? 24 : 0);
        }
    }

    /** "ROW becomes the round from a vertex": the row before is gone, the longer one, too. */
    private static void rowBecomesTheRound(boolean directed) {
        TourHouse x = Checks.graph(directed, 3, 0, 1, 1, 1, 2, 1, 2, 0, 1, 0, 1, 1);
        String fromZero = directed ? "0 2 4 6 2 4" : "0 2 4 6 7";
        Checks.due("round(0)", x.round(0), directed ? 6 : 5);
        Checks.due("row of round(0)", Checks.rowOf(x), fromZero);
        x.round(2);
        Checks.due("row of round(2)", Checks.rowOf(x), directed ? "4 0 2 4 6 2" : "3 1 6 7 5");
        x.round(0);
        Checks.due("row of round(0) again", Checks.rowOf(x), fromZero);
        x.drop();
        x.tour(2);
        Checks.due("round(0) behind a tour", x.round(0), 3);
        Checks.due("its row", Checks.rowOf(x), "0 2 4");
        x.reset(directed, 3);
        Checks.due("round(0) without edges", x.round(0), 0);
        Checks.due("look(3)", x.look(3), 0);
    }

    /** "Throws IllegalArgumentException when there is no such vertex." */
    private static void noSuchVertex(boolean directed, int n) {
        Supplier<TourHouse> busy = () -> Bounds.busy(directed, n);
        Supplier<TourHouse> apart = () -> Checks.graph(directed, n, 0, 0, 1, n - 1, n - 1, 1);
        Supplier<TourHouse> empty = () -> Checks.graph(directed, n);
        Checks.due("round(0)", apart.get().round(0), n == 1 ? 2 : -1);
        Checks.due("round(n - 1)", apart.get().round(n - 1), n == 1 ? 2 : -1);
        for (int v : Bounds.outside(0, n - 1)) {
            Bounds.refused("round(" + v + ")", busy, Bounds.ARGUMENT, x -> x.round(v));
            Bounds.refused("round(" + v + "), apart", apart, Bounds.ARGUMENT, x -> x.round(v));
            Bounds.refused("round(" + v + ") without edges", empty, Bounds.ARGUMENT, x -> x.round(v));
        }
    }
}

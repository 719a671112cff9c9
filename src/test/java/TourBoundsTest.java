import java.util.function.Supplier;

/** The boundary cases of promise 6. Each method quotes its sentence. */
public final class TourBoundsTest {
    public static void main(String[] args) {
        for (boolean directed : Bounds.BOTH) {
            whenAVertexIsOdd(directed);
            whenThereIsNone(directed);
            howManySteps(directed);
            rowBecomesAnotherOne(directed);
            for (int n : new int[] {1, 2, 15, 16}) {
                noSuchVertex(directed, n);
            }
        }
        oddInOneSenseOnly();
        Checks.finish();
    }

    /** "-2 when a vertex is odd; ... (ROW stays with both)". */
    private static void whenAVertexIsOdd(boolean directed) {
        TourHouse x = Checks.graph(directed, 16, 0, 14, 1, 14, 0, 1, 0, 14, 1);
        for (int v = 0; v < 16; v++) {
            Checks.due("tour(" + v + ") with odd vertices, ROW empty", x.tour(v), -2);
            Checks.due("look(3) behind -2", x.look(3), 0);
        }
        Checks.due("round(0)", x.round(0), 4);
        String row = Checks.rowOf(x);
        String extras = Checks.extrasOf(x);
        x.step(7);
        for (int v = 0; v < 16; v++) {
            Checks.due("tour(" + v + ") with odd vertices", x.tour(v), -2);
        }
        Checks.due("row behind -2", Checks.rowOf(x), row);
        Checks.due("its length", row.split(" ").length, 4);
        Checks.due("extras behind -2", Checks.extrasOf(x), extras);
        Checks.due("look(6) behind -2", x.look(6), 1);
        x.edge(7, 7, 1);
        Checks.due("tour(0), odd and apart", x.tour(0), -2);
        Checks.due("tour(7), odd and apart", x.tour(7), -2);
        TourHouse one = Checks.graph(directed, 2, 0, 1, 1);
        Checks.due("tour(0) of one edge", one.tour(0), -2);
        Checks.due("tour(1) of one edge", one.tour(1), -2);
        TourHouse last = Checks.graph(directed, 16, 14, 15, 1);
        Checks.due("tour(0), the last vertices odd", last.tour(0), -2);
    }

    /** An even number of ends may come and go unevenly, and the other way round never. */
    private static void oddInOneSenseOnly() {
        int[] edges = {0, 1, 1, 0, 1, 1};
        Checks.due("tour(0) of two edges away", Checks.graph(false, 2, edges).tour(0), 2);
        Checks.due("directed tour(0) of two edges away", Checks.graph(true, 2, edges).tour(0), -2);
    }

    /** "-1 when there is none (ROW stays with both)". */
    private static void whenThereIsNone(boolean directed) {
        TourHouse x = Checks.graph(directed, 16, 0, 1, 1, 1, 0, 1);
        for (int v = 2; v < 16; v++) {
            Checks.due("tour(" + v + "), no edge there, ROW empty", x.tour(v), -1);
            Checks.due("look(3) behind -1", x.look(3), 0);
        }
        Checks.due("tour(1)", x.tour(1), 2);
        String row = Checks.rowOf(x);
        x.step(7);
        for (int v = 2; v < 16; v++) {
            Checks.due("tour(" + v + "), no edge there", x.tour(v), -1);
        }
        Checks.due("row behind -1", Checks.rowOf(x), row);
        Checks.due("its length", row.split(" ").length, 2);
        Checks.due("look(6) behind -1", x.look(6), 1);
        x.edge(15, 15, 1);
        for (int v = 0; v < 16; v++) {
            Checks.due("tour(" + v + ") of two sets apart", x.tour(v), -1);
        }
        TourHouse rounded = Checks.graph(directed, 3, 0, 1, 1, 1, 0, 1);
        rounded.round(0);
        Checks.due("tour(2)", rounded.tour(2), -1);
        Checks.due("extras behind -1", Checks.extrasOf(rounded), "0 0");
        Checks.due("look(3) behind -1", rounded.look(3), 2);
    }

    /** "how many steps": none, one, 40. */
    private static void howManySteps(boolean directed) {
        TourHouse x = Checks.graph(directed, 16);
        for (int v = 0; v < 16; v++) {
            Checks.due("tour(" + v + ") without edges", x.tour(v), 0);
        }
        for (int m = 1; m <= 40; m++) {
            x.edge(15, 15, 0);
            Checks.due("tour(15) of " + m + " loops", x.tour(15), m);
            Checks.due("row(m - 1)", x.row(m - 1), 2 * (m - 1));
        }
        TourHouse ring = Checks.graph(directed, 16);
        for (int v = 0; v < 15; v++) {
            ring.edge(v, v + 1, Bounds.HEAVY);
            Checks.due("tour(0) of a ring that is open", ring.tour(0), -2);
        }
        ring.edge(15, 0, Bounds.HEAVY);
        Checks.due("tour(0) of a ring", ring.tour(0), 16);
        Checks.due("row(15)", ring.row(15), 30);
    }

    /** "ROW becomes the least tour from a vertex": the row before is gone. */
    private static void rowBecomesAnotherOne(boolean directed) {
        TourHouse x = Checks.graph(directed, 3, 0, 1, 1, 1, 2, 1, 2, 0, 1);
        x.tour(0);
        Checks.due("row of tour(0)", Checks.rowOf(x), "0 2 4");
        x.tour(2);
        Checks.due("row of tour(2)", Checks.rowOf(x), directed ? "4 0 2" : "3 1 5");
        x.round(0);
        x.tour(2);
        Checks.due("row of tour(2) behind a round", Checks.rowOf(x), directed ? "4 0 2" : "3 1 5");
        Checks.due("extra(0) of the round before", x.extra(0), 0);
        x.reset(directed, 3);
        Checks.due("tour(0) without edges", x.tour(0), 0);
        Checks.due("look(3)", x.look(3), 0);
    }

    /** "Throws IllegalArgumentException when there is no such vertex." */
    private static void noSuchVertex(boolean directed, int n) {
        Supplier<TourHouse> even = () -> {
            TourHouse x = Checks.graph(directed, n, 0, n - 1, 1, n - 1, 0, 2);
            x.round(n - 1);
            Bounds.addSteps(x, 0, 2);
            return x;
        };
        Checks.due("tour(0)", even.get().tour(0), 2);
        Checks.due("tour(n - 1)", even.get().tour(n - 1), 2);
        for (int v : Bounds.outside(0, n - 1)) {
            Supplier<TourHouse> empty = () -> Checks.graph(directed, n);
            Bounds.refused("tour(" + v + ")", even, Bounds.ARGUMENT, x -> x.tour(v));
            Bounds.refused("tour(" + v + "), odd", () -> Bounds.busy(directed, n), Bounds.ARGUMENT, x -> x.tour(v));
            Bounds.refused("tour(" + v + ") without edges", empty, Bounds.ARGUMENT, x -> x.tour(v));
        }
    }
}

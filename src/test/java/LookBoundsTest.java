import java.util.function.Supplier;

/** The boundary cases of promise 12. Each method quotes its sentence. */
public final class LookBoundsTest {
    public static void main(String[] args) {
        for (boolean directed : Bounds.BOTH) {
            anotherWhat(directed);
            leastAndMost(directed);
            setsThatHangTogether(directed);
            verticesWithAnEdge(directed);
            rowIsEmptyWhenTheGraphChanges(directed);
            lookingChangesNothing(directed);
        }
        theLeastOfNone();
        Checks.finish();
    }

    /** "Throws IllegalArgumentException for another what." */
    private static void anotherWhat(boolean directed) {
        for (int what : Bounds.outside(0, 8)) {
            String call = "look(" + what + ")";
            Bounds.refused(call, TourHouse::new, Bounds.ARGUMENT, x -> x.look(what));
            Bounds.refused(call, () -> Bounds.busy(directed, 2), Bounds.ARGUMENT, x -> x.look(what));
            Bounds.refused(call, () -> Bounds.full(directed), Bounds.ARGUMENT, x -> x.look(what));
        }
    }

    /** "0 vertices, 1 edges, 2 whether it is directed (1, 0), 3 steps of ROW, ... 6 steps of PATH". */
    private static void leastAndMost(boolean directed) {
        int d = directed ? 1 : 0;
        Bounds.dueLooks("of 1 vertex", Checks.graph(directed, 1), 1, 0, d, 0, 0, -1, 0, 0, 0);
        Bounds.dueLooks("of 16 vertices", Checks.graph(directed, 16), 16, 0, d, 0, 0, -1, 0, 0, 0);
        Bounds.dueLooks("of 40 edges", Bounds.full(directed), 16, 40, d, 48, 2, 0, 48, 1, 16);
        Bounds.dueLooks("of loops", Bounds.busy(directed, 1), 1, 4, d, 4, 0, -1, 5, 1, 1);
        Bounds.dueLooks("of 2 vertices", Bounds.busy(directed, 2), 2, 4, d, 5, 2, 0, 5, 1, 2);
        TourHouse all = Checks.graph(directed, 16);
        for (int v = 0; v < 16; v += 2) {
            all.edge(v, v + 1, 1);
        }
        Bounds.dueLooks("of 16 odd vertices", all, 16, 8, d, 0, 16, 0, 0, 8, 16);
        TourHouse hub = Checks.graph(directed, 16);
        for (int v = 1; v < 16; v++) {
            hub.edge(0, v, 1);
            int odd = directed ? v + 1 : v + v % 2;
            Bounds.dueLooks("of " + v + " edges from 0", hub, 16, v, d, 0, odd,
                directed || v % 2 == 1 ? 0 : 1, 0, 1, v + 1);
        }
    }

    /** "5 the least of these (-1 without one)". */
    private static void theLeastOfNone() {
        TourHouse x = Checks.graph(false, 16);
        Checks.due("look(5) without edges", x.look(5), -1);
        for (int v = 14; v >= 0; v--) {
            x.edge(v, 15, 1);
            Checks.due("look(5), odd down to " + v, x.look(5), v);
        }
        for (int v = 0; v < 15; v++) {
            x.edge(v, 15, 1);
            Checks.due("look(5), odd up from " + v, x.look(5), v < 14 ? v + 1 : -1);
            Checks.due("look(4)", x.look(4), 14 - v + (14 - v) % 2);
        }
        TourHouse y = Checks.graph(true, 16, 15, 15, 1, 14, 14, 1);
        Checks.due("look(5) of directed loops", y.look(5), -1);
        y.edge(15, 14, 1);
        Checks.due("look(5), 14 and 15 odd", y.look(5), 14);
        y.edge(0, 15, 1);
        Checks.due("look(5), 0 and 14 odd", y.look(5), 0);
        y.edge(14, 0, 1);
        Checks.due("look(5) of a directed ring", y.look(5), -1);
        Checks.due("look(4) of a directed ring", y.look(4), 0);
    }

    /** "7 how many sets of edges hang together (edges do that have a vertex in common)". */
    private static void setsThatHangTogether(boolean directed) {
        TourHouse x = Checks.graph(directed, 16);
        Checks.due("look(7) without edges", x.look(7), 0);
        for (int v = 0; v < 16; v++) {
            x.edge(v, v, 1);
            Checks.due("look(7) of " + (v + 1) + " loops", x.look(7), v + 1);
        }
        for (int v = 0; v < 15; v++) {
            x.edge(15 - v, 14 - v, 1);
            Checks.due("look(7) with " + (v + 1) + " joined", x.look(7), 15 - v);
        }
        TourHouse in = Checks.graph(directed, 3, 0, 1, 1, 2, 1, 1);
        Checks.due("look(7) of edges that meet where both end", in.look(7), 1);
        TourHouse out = Checks.graph(directed, 3, 1, 0, 1, 1, 2, 1);
        Checks.due("look(7) of edges that meet where both begin", out.look(7), 1);
        TourHouse twice = Checks.graph(directed, 4, 0, 1, 1, 0, 1, 1, 2, 3, 1);
        Checks.due("look(7) of two edges alike and one apart", twice.look(7), 2);
    }

    /** "8 vertices with an edge". */
    private static void verticesWithAnEdge(boolean directed) {
        TourHouse x = Checks.graph(directed, 16);
        Checks.due("look(8) without edges", x.look(8), 0);
        x.edge(15, 15, 1);
        Checks.due("look(8) of a loop", x.look(8), 1);
        x.edge(15, 15, 1);
        Checks.due("look(8) of two loops", x.look(8), 1);
        x.edge(15, 0, 1);
        Checks.due("look(8) of 15 and 0", x.look(8), 2);
        for (int v = 1; v < 15; v++) {
            x.edge(v, 0, 1);
            Checks.due("look(8) of " + v + " more", x.look(8), v + 2);
        }
        x.drop();
        Checks.due("look(8) behind drop", x.look(8), 15);
    }

    /** "(ROW is empty when the graph changes; PATH stays.)" */
    private static void rowIsEmptyWhenTheGraphChanges(boolean directed) {
        Supplier<TourHouse> made = () -> Bounds.busy(directed, 3);
        TourHouse x = made.get();
        x.edge(0, 0, 0);
        Checks.due("look(3) behind an edge", x.look(3), 0);
        Checks.due("look(6) behind an edge", x.look(6), 5);
        TourHouse y = made.get();
        y.drop();
        Checks.due("look(3) behind drop", y.look(3), 0);
        Checks.due("look(6) behind drop", y.look(6), 5);
        TourHouse z = made.get();
        z.reset(directed, 3);
        Checks.due("look(3) behind reset", z.look(3), 0);
        Checks.due("look(6) behind reset", z.look(6), 5);
        TourHouse w = made.get();
        Checks.dueThrow("edge(0, 3, 0)", w, Bounds.ARGUMENT, () -> w.edge(0, 3, 0));
        Checks.dueThrow("reset(true, 0)", w, Bounds.ARGUMENT, () -> w.reset(true, 0));
        Checks.due("look(3) behind changes that were refused", w.look(3), 5);
    }

    private static void lookingChangesNothing(boolean directed) {
        TourHouse x = Bounds.full(directed);
        TourHouse y = Bounds.full(directed);
        for (int what = 0; what <= 8; what++) {
            x.look(what);
        }
        Checks.due("row behind looks", Checks.rowOf(x), Checks.rowOf(y));
        Checks.due("extras behind looks", Checks.extrasOf(x), Checks.extrasOf(y));
        Checks.due("judge(0) behind looks", x.judge(0), y.judge(0));
        Checks.due("round(0) behind looks", x.round(0), y.round(0));
    }
}

import java.util.function.Consumer;
import java.util.function.Supplier;

/** The boundary cases of promise 8. Each method quotes its sentence. */
public final class ExtraBoundsTest {
    public static void main(String[] args) {
        for (boolean directed : Bounds.BOTH) {
            for (int m : new int[] {0, 1, 2, 39, 40}) {
                noSuchEdge(directed, m);
            }
            noRoundYet(directed);
            graphChangedSince(directed);
            graphNotChangedSince(directed);
            inTheLatestRound(directed);
        }
        Checks.finish();
    }

    private static TourHouse loops(boolean directed, int m) {
        TourHouse x = Checks.graph(directed, 2);
        for (int e = 0; e < m; e++) {
            x.edge(1, 1, e);
        }
        return x;
    }

    /** "Throws NoSuchElementException when there is no such edge": with a round and without. */
    private static void noSuchEdge(boolean directed, int m) {
        Supplier<TourHouse> noRound = () -> loops(directed, m);
        Supplier<TourHouse> withRound = () -> {
            TourHouse x = loops(directed, m);
            x.round(1);
            return x;
        };
        for (int e : Bounds.outside(0, m - 1)) {
            Bounds.refused("extra(" + e + ") of " + m, withRound, Bounds.NONE, x -> x.extra(e));
            Bounds.refused("extra(" + e + ") of " + m + ", no round", noRound, Bounds.NONE, x -> x.extra(e));
        }
        for (int e = 0; e < m; e++) {
            int each = e;
            Checks.due("extra(" + e + ") of " + m, withRound.get().extra(e), 0);
            Bounds.refused("extra(" + e + ") of " + m + ", no round", noRound, Bounds.STATE, x -> x.extra(each));
        }
    }

    /** "IllegalStateException when there was no round (that was no -1) ...". */
    private static void noRoundYet(boolean directed) {
        dueNoRound("at first", directed, x -> { });
        dueNoRound("behind a tour", directed, x -> Checks.due("tour(0)", x.tour(0), 2));
        dueNoRound("behind a tour of -1", directed, x -> Checks.due("tour(2)", x.tour(2), -1));
        dueNoRound("behind a round of -1", directed, x -> Checks.due("round(2)", x.round(2), -1));
        dueNoRound("behind a refused round", directed,
            x -> Checks.dueThrow("round(3)", x, Bounds.ARGUMENT, () -> x.round(3)));
        dueNoRound("behind judge and distance", directed, x -> {
            Checks.judged(x, 0, 0, 2);
            x.distance(0, 1);
        });
        Supplier<TourHouse> odd = () -> {
            TourHouse x = Checks.graph(directed, 2, 0, 1, 1);
            x.tour(0);
            return x;
        };
        Bounds.refused("extra(0) behind a tour of -2", odd, Bounds.STATE, x -> x.extra(0));
    }

    /** "... since the graph last changed": reset, edge and drop change it, even to what it was. */
    private static void graphChangedSince(boolean directed) {
        dueNoRound("behind a round and an edge", directed, x -> {
            x.round(0);
            x.edge(2, 2, 0);
        });
        dueNoRound("behind a round and drop", directed, x -> {
            x.edge(0, 0, 0);
            x.round(0);
            x.drop();
        });
        dueNoRound("behind a round, an edge and drop", directed, x -> {
            x.round(0);
            x.edge(0, 0, 0);
            x.drop();
        });
        dueNoRound("behind a round, reset and the same edges", directed, x -> {
            x.round(0);
            x.reset(directed, 3);
            x.edge(0, 1, 1);
            x.edge(1, 0, 2);
        });
        dueNoRound("behind a round without edges and an edge", directed, x -> {
            x.reset(directed, 1);
            x.round(0);
            x.edge(0, 0, 1);
            x.edge(0, 0, 1);
        });
    }

    private static void dueNoRound(String when, boolean directed, Consumer<TourHouse> calls) {
        Supplier<TourHouse> made = () -> {
            TourHouse x = Checks.graph(directed, 3, 0, 1, 1, 1, 0, 2);
            calls.accept(x);
            return x;
        };
        Bounds.refused("extra(0) " + when, made, Bounds.STATE, x -> x.extra(0));
        Bounds.refused("extra(1) " + when, made, Bounds.STATE, x -> x.extra(1));
    }

    /** The same words, from the other side: calls that are refused, or ask and judge only, do not change it. */
    private static void graphNotChangedSince(boolean directed) {
        TourHouse x = Checks.graph(directed, 4, 0, 1, 1, 1, 0, 2, 0, 1, 3);
        Checks.due("round(0)", x.round(0), directed ? 8 : 7);
        String due = directed ? "0 1 0" : "1 0 0";
        Checks.due("extras", Checks.extrasOf(x), due);
        Checks.due("round(3), none from there", x.round(3), -1);
        Checks.due("extras behind a round of -1", Checks.extrasOf(x), due);
        Checks.due("tour(0)", x.tour(0), -2);
        Checks.dueThrow("reset(true, 17)", x, Bounds.ARGUMENT, () -> x.reset(true, 17));
        Checks.dueThrow("reset(false, 0)", x, Bounds.ARGUMENT, () -> x.reset(false, 0));
        Checks.dueThrow("edge(0, 4, 1)", x, Bounds.ARGUMENT, () -> x.edge(0, 4, 1));
        Checks.dueThrow("edge(0, 0, -1)", x, Bounds.ARGUMENT, () -> x.edge(0, 0, -1));
        Checks.dueThrow("round(4)", x, Bounds.ARGUMENT, () -> x.round(4));
        Checks.due("judge(0)", Checks.judged(x, 0, 0, 2, 4, 2), 8);
        x.distance(0, 3);
        x.look(7);
        Checks.due("extras behind them all", Checks.extrasOf(x), due);
        TourHouse full = Bounds.full(directed);
        String before = Checks.extrasOf(full);
        Checks.dueThrow("edge 40", full, Bounds.STATE, () -> full.edge(0, 0, 0));
        Checks.due("extras behind a refused edge", Checks.extrasOf(full), before);
        Checks.due("of 8 and 32 edges", before.replaceAll("[^1]", "").length(), 8);
    }

    /** "EXTRA of an edge in the latest round." */
    private static void inTheLatestRound(boolean directed) {
        TourHouse x = Checks.graph(directed, 2, 0, 1, 0, 1, 0, 1, 0, 1, 5);
        x.round(0);
        Checks.due("extras of the first graph", Checks.extrasOf(x), directed ? "0 1 0" : "1 0 0");
        x.edge(1, 0, 0);
        x.round(1);
        Checks.due("extras of the second graph", Checks.extrasOf(x), "0 0 0 0");
        x.edge(1, 0, 0);
        x.round(1);
        Checks.due("extras of the third graph", Checks.extrasOf(x), directed ? "1 0 0 0 0" : "0 0 0 0 1");
        TourHouse most = Checks.graph(true, 2);
        for (int e = 0; e < 39; e++) {
            most.edge(1, 0, 1);
        }
        most.edge(0, 1, 1);
        Checks.due("round(0) of 39 back", most.round(0), 78);
        Checks.due("extra(39), the most", most.extra(39), 38);
        Checks.due("extra(0)", most.extra(0), 0);
    }
}

import java.util.function.Supplier;

/** The boundary cases of promise 2. Each method quotes its sentence. */
public final class ResetBoundsTest {
    public static void main(String[] args) {
        for (boolean directed : Bounds.BOTH) {
            fromOneToSixteen(directed);
            refusedElsewhere(directed);
            howManyTheOldOneHad(directed);
            nothingOfTheOldGraph(directed);
            theSameNumbersAgain(directed);
        }
        Checks.finish();
    }

    /** "Throws IllegalArgumentException when n is not 1 .. 16": all within. */
    private static void fromOneToSixteen(boolean directed) {
        TourHouse x = new TourHouse();
        for (int n = 1; n <= 16; n++) {
            Checks.due("reset(" + directed + ", " + n + ")", x.reset(directed, n), n == 1 ? 0 : 1);
            Bounds.dueLooks("behind reset to " + n, x, n, 0, directed ? 1 : 0, 0, 0, -1, 0, 0, 0);
            x.edge(n - 1, n - 1, 1);
            Checks.due("round(n - 1)", x.round(n - 1), 1);
        }
    }

    /** "Throws IllegalArgumentException when n is not 1 .. 16": the others. */
    private static void refusedElsewhere(boolean directed) {
        for (int n : Bounds.outside(1, 16)) {
            for (boolean to : Bounds.BOTH) {
                String call = "reset(" + to + ", " + n + ")";
                Supplier<TourHouse> empty = () -> Checks.graph(directed, 16);
                Bounds.refused(call, TourHouse::new, Bounds.ARGUMENT, x -> x.reset(to, n));
                Bounds.refused(call, empty, Bounds.ARGUMENT, x -> x.reset(to, n));
                Bounds.refused(call, () -> Bounds.busy(directed, 1), Bounds.ARGUMENT, x -> x.reset(to, n));
                Bounds.refused(call, () -> Bounds.busy(directed, 16), Bounds.ARGUMENT, x -> x.reset(to, n));
                Bounds.refused(call, () -> Bounds.full(directed), Bounds.ARGUMENT, x -> x.reset(to, n));
            }
        }
    }

    /** "A new graph without edges: how many the old one had." */
    private static void howManyTheOldOneHad(boolean directed) {
        for (int had = 0; had <= 40; had++) {
            TourHouse x = Checks.graph(!directed, 16);
            for (int e = 0; e < had; e++) {
                x.edge(e % 16, e % 5, 1);
            }
            Checks.due("reset of " + had + " edges", x.reset(directed, 3), had);
            Checks.due("reset at once again", x.reset(directed, 3), 0);
        }
        TourHouse x = Checks.graph(directed, 2, 0, 1, 1, 1, 0, 1);
        x.drop();
        Checks.due("reset behind drop", x.reset(directed, 2), 1);
    }

    /** "A new graph without edges". */
    private static void nothingOfTheOldGraph(boolean directed) {
        TourHouse x = Bounds.full(!directed);
        x.reset(directed, 16);
        Bounds.dueLooks("behind reset", x, 16, 0, directed ? 1 : 0, 0, 0, -1, 48, 0, 0);
        Checks.due("distance(0, 1)", x.distance(0, 1), -1);
        Checks.due("tour(5)", x.tour(5), 0);
        Checks.due("round(5)", x.round(5), 0);
        Checks.due("judge(0) of the steps of old edges", x.judge(0), -1);
        Checks.due("edge(3, 4, 2)", x.edge(3, 4, 2), 0);
        Checks.due("distance(3, 4)", x.distance(3, 4), 2);
        Checks.due("distance(4, 3)", x.distance(4, 3), directed ? -1 : 2);
        Checks.due("distance(0, 1)", x.distance(0, 1), -1);
    }

    /** "(ROW is empty when the graph changes; PATH stays.)": a graph like the old one is a new one, too. */
    private static void theSameNumbersAgain(boolean directed) {
        Supplier<TourHouse> made = () -> {
            TourHouse x = Bounds.busy(directed, 2);
            x.reset(directed, 2);
            return x;
        };
        Bounds.dueLooks("behind reset", made.get(), 2, 0, directed ? 1 : 0, 0, 0, -1, 5, 0, 0);
        Bounds.refused("row(0) behind reset", made, Bounds.NONE, x -> x.row(0));
        Bounds.refused("extra(0) behind reset", made, Bounds.NONE, x -> x.extra(0));
        Bounds.refused("drop() behind reset", made, Bounds.STATE, TourHouse::drop);
        Supplier<TourHouse> again = () -> {
            TourHouse x = made.get();
            x.edge(0, 1, 5);
            return x;
        };
        Bounds.refused("extra(0) of a new edge", again, Bounds.STATE, x -> x.extra(0));
        TourHouse x = again.get();
        x.edge(1, 0, 7);
        x.edge(1, 1, 1);
        x.edge(0, 1, 0);
        Checks.due("judge(0) of the PATH that stayed", x.judge(0), 20);
    }
}

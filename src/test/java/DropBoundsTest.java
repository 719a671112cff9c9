import java.util.function.Supplier;

/** The boundary cases of promise 4. Each method quotes its sentence. */
public final class DropBoundsTest {
    public static void main(String[] args) {
        Bounds.refused("drop() of a new object", TourHouse::new, Bounds.STATE, TourHouse::drop);
        for (boolean directed : Bounds.BOTH) {
            whenThereIsNone(directed);
            downFromForty(directed);
            theEdgeIsGone(directed);
            rowIsEmptyBehindIt(directed);
        }
        Checks.finish();
    }

    /** "Throws IllegalStateException when there is none." */
    private static void whenThereIsNone(boolean directed) {
        Bounds.refused("drop() behind reset", () -> Checks.graph(directed, 16), Bounds.STATE, TourHouse::drop);
        TourHouse one = Checks.graph(directed, 1, 0, 0, 1);
        Checks.due("drop() of one", one.drop(), 0);
        Supplier<TourHouse> dropped = () -> {
            TourHouse x = Bounds.busy(directed, 5);
            for (int e = 0; e < 4; e++) {
                x.drop();
            }
            return x;
        };
        Bounds.refused("drop() when all are dropped", dropped, Bounds.STATE, TourHouse::drop);
        Supplier<TourHouse> walked = () -> {
            TourHouse x = dropped.get();
            x.round(4);
            return x;
        };
        Bounds.refused("drop() behind a round of no edge", walked, Bounds.STATE, TourHouse::drop);
        TourHouse refusedTwice = dropped.get();
        for (int k = 0; k < 2; k++) {
            Checks.dueThrow("drop() again", refusedTwice, Bounds.STATE, refusedTwice::drop);
        }
        Checks.due("edge(4, 4, 1) behind refused drops", refusedTwice.edge(4, 4, 1), 0);
        Checks.due("drop() of it", refusedTwice.drop(), 0);
    }

    /** "The last edge goes: its number." */
    private static void downFromForty(boolean directed) {
        TourHouse x = Bounds.full(directed);
        for (int e = 39; e >= 0; e--) {
            Checks.due("drop() of " + (e + 1), x.drop(), e);
            Checks.due("look(1)", x.look(1), e);
        }
        Bounds.dueLooks("when all are dropped", x, 16, 0, directed ? 1 : 0, 0, 0, -1, 48, 0, 0);
    }

    /** "The last edge goes": its step is none any more, its number is free again. */
    private static void theEdgeIsGone(boolean directed) {
        TourHouse x = Checks.graph(directed, 3, 0, 1, 4, 1, 0, 4, 1, 2, 4, 2, 1, 4);
        x.drop();
        Checks.due("step 6 of the dropped edge", Checks.judged(x, 2, 6), -1);
        Checks.due("the way over it", x.distance(2, 1), directed ? -1 : 4);
        x.drop();
        Checks.due("distance(1, 2)", x.distance(1, 2), -1);
        Checks.due("judge(0) of the edges that stay", Checks.judged(x, 0, 0, 2), 8);
        Checks.due("look(8)", x.look(8), 2);
        Checks.due("edge(2, 2, 9)", x.edge(2, 2, 9), 2);
        Checks.due("the step of the new edge 2", Checks.judged(x, 2, 4), -3);
    }

    /** "(ROW is empty when the graph changes; PATH stays.)" */
    private static void rowIsEmptyBehindIt(boolean directed) {
        Supplier<TourHouse> made = () -> {
            TourHouse x = Bounds.busy(directed, 2);
            x.edge(1, 1, 3);
            x.round(1);
            x.drop();
            return x;
        };
        Checks.due("look(3) behind drop", made.get().look(3), 0);
        Checks.due("look(6) behind drop", made.get().look(6), 5);
        Checks.due("judge(0) of the PATH that stayed", made.get().judge(0), 1000000019);
        Bounds.refused("row(0) behind drop", made, Bounds.NONE, x -> x.row(0));
        Bounds.refused("extra(0) behind drop", made, Bounds.STATE, x -> x.extra(0));
        Bounds.refused("extra(4) behind drop", made, Bounds.NONE, x -> x.extra(4));
    }
}

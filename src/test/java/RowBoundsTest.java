import java.util.function.Supplier;

/** The boundary cases of promise 9: "Step k of ROW. Throws NoSuchElementException when there is none." */
public final class RowBoundsTest {
    public static void main(String[] args) {
        dueBounds("a new object", 0, TourHouse::new);
        for (boolean directed : Bounds.BOTH) {
            emptyRows(directed);
            rowsOfTours(directed);
            rowsOfRounds(directed);
            rowsThatStay(directed);
        }
        theLongestRow();
        Checks.finish();
    }

    /** The first and the last step are there, none before and none behind. */
    private static void dueBounds(String of, int length, Supplier<TourHouse> made) {
        Checks.due("look(3) of " + of, made.get().look(3), length);
        if (length > 0) {
            Checks.due("row(0) of " + of + " is a step", made.get().row(0) >= 0, true);
            Checks.due("row(length - 1) of " + of + " is a step", made.get().row(length - 1) >= 0, true);
        }
        for (int k : Bounds.outside(0, length - 1)) {
            Bounds.refused("row(" + k + ") of " + of, made, Bounds.NONE, x -> x.row(k));
        }
    }

    private static Supplier<TourHouse> loops(boolean directed, int m, boolean byRound) {
        return () -> {
            TourHouse x = Checks.graph(directed, 1);
            for (int e = 0; e < m; e++) {
                x.edge(0, 0, 1);
            }
            Checks.due("loops walked", byRound ? x.round(0) : x.tour(0), m);
            return x;
        };
    }

    private static void emptyRows(boolean directed) {
        dueBounds("no tour", 0, () -> Checks.graph(directed, 2, 0, 1, 1));
        dueBounds("an empty tour", 0, loops(directed, 0, false));
        dueBounds("an empty round", 0, loops(directed, 0, true));
        dueBounds("a row behind an edge", 0, () -> {
            TourHouse x = Bounds.busy(directed, 3);
            x.edge(0, 0, 0);
            return x;
        });
        dueBounds("a row behind drop", 0, () -> {
            TourHouse x = Bounds.full(directed);
            x.drop();
            return x;
        });
        dueBounds("a row behind reset", 0, () -> {
            TourHouse x = Bounds.full(directed);
            x.reset(directed, 16);
            return x;
        });
    }

    private static void rowsOfTours(boolean directed) {
        for (int m : new int[] {1, 2, 39, 40}) {
            dueBounds("a tour of " + m, m, loops(directed, m, false));
            TourHouse x = loops(directed, m, false).get();
            for (int k = 0; k < m; k++) {
                Checks.due("row(" + k + ")", x.row(k), 2 * k);
            }
        }
    }

    private static void rowsOfRounds(boolean directed) {
        for (int m : new int[] {1, 2, 39, 40}) {
            dueBounds("a round of " + m, m, loops(directed, m, true));
        }
        dueBounds("a round with extras", 48, () -> Bounds.full(directed));
    }

    /** A longer row that was there before leaves nothing behind a shorter one; refused calls leave all. */
    private static void rowsThatStay(boolean directed) {
        dueBounds("a shorter row", 1, () -> {
            TourHouse x = Bounds.full(directed);
            x.reset(directed, 2);
            x.edge(1, 1, 1);
            x.tour(1);
            return x;
        });
        TourHouse x = Bounds.full(directed);
        String row = Checks.rowOf(x);
        Checks.due("tour(0)", x.tour(0), -2);
        Checks.dueThrow("edge 40", x, Bounds.STATE, () -> x.edge(0, 0, 0));
        Checks.dueThrow("row(48)", x, Bounds.NONE, () -> x.row(48));
        Checks.dueThrow("row(-1)", x, Bounds.NONE, () -> x.row(-1));
        Checks.due("judge(0)", x.judge(0), 872);
        Checks.due("row behind them", Checks.rowOf(x), row);
    }

    private static void theLongestRow() {
        Supplier<TourHouse> made = () -> {
            TourHouse x = Checks.graph(true, 16);
            for (int v = 0; v < 15; v++) {
                x.edge(v, v + 1, 0);
            }
            for (int e = 15; e < 40; e++) {
                x.edge(15, 0, 0);
            }
            x.round(0);
            return x;
        };
        TourHouse x = made.get();
        Checks.due("look(3)", x.look(3), 400);
        for (int k = 0; k < 400; k++) {
            Checks.due("row(" + k + ")", x.row(k), k % 16 < 15 ? 2 * (k % 16) : 30 + 2 * (k / 16));
        }
        for (int k : Bounds.outside(0, 399)) {
            TourHouse y = made.get();
            Checks.dueThrow("row(" + k + ") of 400", y, Bounds.NONE, () -> y.row(k));
        }
    }
}

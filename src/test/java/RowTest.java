import java.util.NoSuchElementException;

/** Promise 9: row. */
public final class RowTest {
    public static void main(String[] args) {
        TourHouse x = Checks.graph(false, 3, 0, 1, 1, 1, 2, 1, 2, 0, 1);
        Checks.dueThrow("row(0) at first", x, NoSuchElementException.class, () -> x.row(0));
        x.tour(1);
        Checks.due("row of tour(1)", Checks.rowOf(x), "1 5 3");
        for (int k : new int[] {-1, 3, Integer.MIN_VALUE, Integer.MAX_VALUE}) {
            Checks.dueThrow("row(" + k + ")", x, NoSuchElementException.class, () -> x.row(k));
        }
        x.round(2);
        Checks.due("row of round(2)", Checks.rowOf(x), "3 1 5");
        Checks.due("distance(0, 1)", x.distance(0, 1), 1);
        Checks.due("judge(0)", Checks.judged(x, 0, 0, 2, 4), 3);
        Checks.due("row is the same", Checks.rowOf(x), "3 1 5");
        x.drop();
        Checks.dueThrow("row(0) behind drop", x, NoSuchElementException.class, () -> x.row(0));
        x.round(0);
        Checks.due("row of round(0)", Checks.rowOf(x), "0 2 3 1");
        x.edge(2, 2, 0);
        Checks.dueThrow("row(0) behind edge", x, NoSuchElementException.class, () -> x.row(0));
        x.round(2);
        x.reset(false, 3);
        Checks.dueThrow("row(0) behind reset", x, NoSuchElementException.class, () -> x.row(0));
        Checks.finish();
    }
}

import java.util.NoSuchElementException;

/** Promise 4: drop. */
public final class DropTest {
    public static void main(String[] args) {
        TourHouse x = Checks.graph(false, 3, 0, 1, 5, 1, 2, 6, 2, 2, 7);
        Checks.due("round(0)", x.round(0), 29);
        x.step(0);
        Checks.due("drop()", x.drop(), 2);
        Checks.due("look(1)", x.look(1), 2);
        Checks.due("look(3)", x.look(3), 0);
        Checks.due("look(6)", x.look(6), 1);
        Checks.dueThrow("row(0)", x, NoSuchElementException.class, () -> x.row(0));
        Checks.dueThrow("extra(0)", x, IllegalStateException.class, () -> x.extra(0));
        Checks.dueThrow("extra(2)", x, NoSuchElementException.class, () -> x.extra(2));
        Checks.due("distance(0, 2)", x.distance(0, 2), 11);
        Checks.due("drop()", x.drop(), 1);
        Checks.due("distance(0, 2)", x.distance(0, 2), -1);
        Checks.due("round(0)", x.round(0), 10);
        Checks.due("drop()", x.drop(), 0);
        Checks.due("look(8)", x.look(8), 0);
        Checks.dueThrow("drop()", x, IllegalStateException.class, x::drop);
        Checks.due("edge(2, 1, 3)", x.edge(2, 1, 3), 0);
        Checks.due("distance(1, 2)", x.distance(1, 2), 3);
        Checks.finish();
    }
}

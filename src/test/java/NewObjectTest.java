import java.util.NoSuchElementException;

/** Promise 1: a new object. */
public final class NewObjectTest {
    public static void main(String[] args) {
        TourHouse x = new TourHouse();
        int[] due = {1, 0, 0, 0, 0, -1, 0, 0, 0};
        for (int what = 0; what < due.length; what++) {
            Checks.due("look(" + what + ")", x.look(what), due[what]);
        }
        Checks.dueThrow("row(0)", x, NoSuchElementException.class, () -> x.row(0));
        Checks.dueThrow("extra(0)", x, NoSuchElementException.class, () -> x.extra(0));
        Checks.dueThrow("drop()", x, IllegalStateException.class, x::drop);
        Checks.dueThrow("edge(0, 1, 1)", x, IllegalArgumentException.class, () -> x.edge(0, 1, 1));
        Checks.due("distance(0, 0)", x.distance(0, 0), 0);
        Checks.due("tour(0)", x.tour(0), 0);
        Checks.due("round(0)", x.round(0), 0);
        Checks.due("judge(0)", x.judge(0), 0);
        Checks.due("edge(0, 0, 5)", x.edge(0, 0, 5), 0);
        Checks.due("judge(0)", Checks.judged(x, 0, 1), -1);

        TourHouse other = new TourHouse();
        Checks.due("look(1) of another object", other.look(1), 0);
        Checks.finish();
    }
}

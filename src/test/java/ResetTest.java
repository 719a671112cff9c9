import java.util.NoSuchElementException;

/** Promise 2: reset. */
public final class ResetTest {
    public static void main(String[] args) {
        TourHouse x = new TourHouse();
        Checks.due("reset(true, 16)", x.reset(true, 16), 0);
        Checks.due("look(0)", x.look(0), 16);
        Checks.due("look(2)", x.look(2), 1);
        x.edge(15, 15, 4);
        x.edge(15, 15, 4);
        x.edge(3, 3, 4);
        x.step(0);
        x.drop();
        x.round(15);
        Checks.due("look(3)", x.look(3), 2);

        for (int n : new int[] {0, 17, -1, Integer.MIN_VALUE, Integer.MAX_VALUE}) {
            Checks.dueThrow("reset(false, " + n + ")", x, IllegalArgumentException.class, () -> x.reset(false, n));
        }
        Checks.due("reset(false, 1)", x.reset(false, 1), 2);
        int[] due = {1, 0, 0, 0, 0, -1, 1, 0, 0};
        for (int what = 0; what < due.length; what++) {
            Checks.due("look(" + what + ") behind reset", x.look(what), due[what]);
        }
        Checks.dueThrow("row(0)", x, NoSuchElementException.class, () -> x.row(0));
        Checks.dueThrow("distance(0, 1)", x, IllegalArgumentException.class, () -> x.distance(0, 1));
        Checks.due("reset(false, 1)", x.reset(false, 1), 0);

        x.edge(0, 0, 1);
        x.round(0);
        x.reset(false, 1);
        x.edge(0, 0, 1);
        Checks.dueThrow("extra(0) behind reset", x, IllegalStateException.class, () -> x.extra(0));
        Checks.due("judge(0) of the path that stayed", x.judge(0), 1);
        Checks.finish();
    }
}

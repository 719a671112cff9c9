import java.util.NoSuchElementException;

/** Promise 8: extra. */
public final class ExtraTest {
    public static void main(String[] args) {
        TourHouse x = Checks.graph(false, 4, 0, 1, 3, 1, 2, 3, 2, 0, 3, 0, 2, 1);
        Checks.dueThrow("extra(0) before a round", x, IllegalStateException.class, () -> x.extra(0));
        Checks.due("tour(0)", x.tour(0), -2);
        Checks.due("round(3)", x.round(3), -1);
        Checks.dueThrow("extra(0) behind -1 alone", x, IllegalStateException.class, () -> x.extra(0));
        Checks.dueThrow("extra(4) before a round", x, NoSuchElementException.class, () -> x.extra(4));
        Checks.due("round(0)", x.round(0), 11);
        Checks.due("extras", Checks.extrasOf(x), "0 0 0 1");
        for (int e : new int[] {-1, 4, 40, Integer.MIN_VALUE, Integer.MAX_VALUE}) {
            Checks.dueThrow("extra(" + e + ")", x, NoSuchElementException.class, () -> x.extra(e));
        }
        Checks.due("round(3)", x.round(3), -1);
        Checks.due("extras behind -1", Checks.extrasOf(x), "0 0 0 1");

        x.edge(0, 2, 1);
        Checks.dueThrow("extra(0) behind edge", x, IllegalStateException.class, () -> x.extra(0));
        Checks.due("tour(0)", x.tour(0), 5);
        Checks.dueThrow("extra(0) behind a tour", x, IllegalStateException.class, () -> x.extra(0));
        Checks.due("round(0)", x.round(0), 11);
        Checks.due("extras", Checks.extrasOf(x), "0 0 0 0 0");
        x.drop();
        Checks.dueThrow("extra(0) behind drop", x, IllegalStateException.class, () -> x.extra(0));
        x.round(1);
        Checks.due("tour(1)", x.tour(1), -2);
        Checks.due("extras behind a tour", Checks.extrasOf(x), "0 0 0 1");
        x.reset(true, 2);
        Checks.dueThrow("extra(0) behind reset", x, NoSuchElementException.class, () -> x.extra(0));
        for (int e = 0; e < 39; e++) {
            x.edge(0, 1, 1);
        }
        x.edge(1, 0, 1);
        x.round(0);
        Checks.due("extra(39)", x.extra(39), 38);
        Checks.due("extra(38)", x.extra(38), 0);
        Checks.finish();
    }
}

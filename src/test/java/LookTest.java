/** Promise 12: look. */
public final class LookTest {
    public static void main(String[] args) {
        TourHouse x = Checks.graph(false, 16, 3, 4, 1, 4, 5, 1, 7, 7, 1, 9, 8, 1, 8, 9, 1);
        dueLooks(x, 16, 5, 0, 0, 2, 3, 0, 3, 6);
        x.step(5);
        Checks.due("round(3)", x.round(3), -1);
        x.edge(5, 7, 1);
        dueLooks(x, 16, 6, 0, 0, 2, 3, 1, 2, 6);
        x.edge(7, 8, 1);
        x.round(7);
        dueLooks(x, 16, 7, 0, 11, 2, 3, 1, 1, 6);

        TourHouse y = Checks.graph(true, 5, 2, 1, 1, 2, 3, 1, 3, 2, 1, 4, 4, 1);
        dueLooks(y, 5, 4, 1, 0, 2, 1, 0, 2, 4);
        y.edge(1, 2, 1);
        dueLooks(y, 5, 5, 1, 0, 0, -1, 0, 2, 4);
        y.edge(0, 4, 1);
        y.edge(0, 4, 1);
        dueLooks(y, 5, 7, 1, 0, 2, 0, 0, 2, 5);

        for (int what : new int[] {-1, 9, Integer.MIN_VALUE, Integer.MAX_VALUE}) {
            Checks.dueThrow("look(" + what + ")", x, IllegalArgumentException.class, () -> x.look(what));
        }
        TourHouse all = Checks.graph(false, 16);
        for (int v = 0; v < 16; v += 2) {
            all.edge(v, v + 1, 1);
        }
        dueLooks(all, 16, 8, 0, 0, 16, 0, 0, 8, 16);
        Checks.finish();
    }

    private static void dueLooks(TourHouse x, int... due) {
        for (int what = 0; what < due.length; what++) {
            Checks.due("look(" + what + ")", x.look(what), due[what]);
        }
    }
}

/** Promise 5: distance. */
public final class DistanceTest {
    public static void main(String[] args) {
        int[] edges = {0, 1, 7, 1, 2, 2, 0, 2, 10, 2, 3, 0, 3, 3, 4, 2, 0, 1};
        TourHouse x = Checks.graph(false, 5, edges);
        TourHouse y = Checks.graph(true, 5, edges);
        Checks.due("distance(0, 1)", x.distance(0, 1), 3);
        Checks.due("distance(1, 0)", x.distance(1, 0), 3);
        Checks.due("distance(3, 0)", x.distance(3, 0), 1);
        Checks.due("distance(3, 3)", x.distance(3, 3), 0);
        Checks.due("distance(0, 4)", x.distance(0, 4), -1);
        Checks.due("distance(4, 4)", x.distance(4, 4), 0);
        Checks.due("directed distance(0, 1)", y.distance(0, 1), 7);
        Checks.due("directed distance(0, 3)", y.distance(0, 3), 9);
        Checks.due("directed distance(1, 0)", y.distance(1, 0), 3);
        Checks.due("directed distance(3, 2)", y.distance(3, 2), -1);
        Checks.due("directed distance(4, 0)", y.distance(4, 0), -1);
        longWays(false);
        longWays(true);
        for (int v : new int[] {-1, 5, 16, Integer.MIN_VALUE, Integer.MAX_VALUE}) {
            Checks.dueThrow("distance(" + v + ", 0)", x, IllegalArgumentException.class, () -> x.distance(v, 0));
            Checks.dueThrow("distance(0, " + v + ")", x, IllegalArgumentException.class, () -> x.distance(0, v));
        }
        Checks.finish();
    }

    /** Edges in the order that lets a search find the whole way only bit by bit. */
    private static void longWays(boolean directed) {
        TourHouse x = Checks.graph(directed, 16);
        for (int v = 14; v >= 0; v--) {
            x.edge(v, v + 1, 1000000000);
        }
        Checks.due("distance(0, 15)", x.distance(0, 15), 15000000000L);
        Checks.due("distance(15, 0)", x.distance(15, 0), directed ? -1 : 15000000000L);
    }
}

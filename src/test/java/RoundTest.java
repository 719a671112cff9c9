/** Promise 7: round. */
public final class RoundTest {
    private static final int HEAVY = 1000000000;

    public static void main(String[] args) {
        ordinaryRounds();
        tiesByTheFirstEdges();
        directedRounds();
        noRound();
        atTheLimits();
        TourHouse x = Checks.graph(true, 3, 0, 1, 1, 1, 0, 1);
        x.round(0);
        for (int v : new int[] {-1, 3, Integer.MIN_VALUE, Integer.MAX_VALUE}) {
            Checks.dueThrow("round(" + v + ")", x, IllegalArgumentException.class, () -> x.round(v));
        }
        Checks.finish();
    }

    private static void dueRound(TourHouse x, int start, long cost, String extras, String row) {
        Checks.due("round(" + start + ")", x.round(start), cost);
        Checks.due("extras", Checks.extrasOf(x), extras);
        Checks.due("row", Checks.rowOf(x), row);
    }

    private static void ordinaryRounds() {
        TourHouse x = Checks.graph(false, 3, 0, 1, 4, 1, 2, 5, 2, 2, 6);
        dueRound(x, 0, 24, "1 1 0", "0 2 4 3 1");
        dueRound(x, 2, 24, "1 1 0", "3 1 0 2 4");
        TourHouse even = Checks.graph(false, 3, 0, 1, 1, 1, 2, 1, 2, 0, 1);
        dueRound(even, 1, 3, "0 0 0", "1 5 3");
        TourHouse cheaper = Checks.graph(false, 3, 0, 1, 9, 0, 1, 9, 0, 2, 1, 2, 1, 1);
        dueRound(cheaper, 0, 22, "0 0 1 1", "0 3 4 6 7 5");
    }

    private static void tiesByTheFirstEdges() {
        TourHouse x = Checks.graph(false, 2, 0, 1, 1, 0, 1, 1, 0, 1, 1);
        dueRound(x, 0, 4, "0 0 1", "0 3 4 5");
        TourHouse free = Checks.graph(false, 2, 0, 1, 0, 0, 1, 0, 1, 0, 0);
        dueRound(free, 0, 0, "0 0 1", "0 3 5 4");
        // Edges 1 and 2 together cost as much as edge 0: that one is spared, though it takes a step more.
        TourHouse detour = Checks.graph(false, 3, 0, 1, 2, 0, 2, 1, 2, 1, 1, 0, 1, 9);
        dueRound(detour, 0, 15, "0 1 1 0", "0 5 3 2 4 7");
    }

    private static void directedRounds() {
        TourHouse x = Checks.graph(true, 3, 0, 1, 1, 0, 1, 1, 0, 1, 1, 1, 2, 1, 2, 0, 1);
        dueRound(x, 0, 9, "0 0 0 2 2", "0 6 8 2 6 8 4 6 8");
        dueRound(x, 2, 9, "0 0 0 2 2", "8 0 6 8 2 6 8 4 6");
        // Edge 0 and edge 1 go back equally cheap; the later one is taken.
        TourHouse tie = Checks.graph(true, 2, 1, 0, 3, 1, 0, 3, 0, 1, 1, 0, 1, 1, 0, 1, 1);
        dueRound(tie, 0, 12, "0 1 0 0 0", "4 0 6 2 8 2");
        // The free detour over vertex 2 has the later edges, so edge 0 is spared.
        TourHouse free = Checks.graph(true, 3, 1, 0, 0, 0, 1, 0, 0, 1, 0, 0, 1, 0, 1, 2, 0, 2, 0, 0);
        dueRound(free, 0, 0, "0 0 0 0 1 1", "2 0 4 8 10 6 8 10");
        // The nearest vertex to go to is not the right one for both 0 and 1.
        TourHouse crossed = Checks.graph(true, 4, 0, 2, 1, 0, 3, 2, 1, 2, 1, 1, 3, 100,
            2, 0, 50, 2, 0, 50, 2, 1, 50, 3, 0, 50, 3, 1, 50, 3, 1, 50);
        Checks.due("round(0) crossed", crossed.round(0), 407);
        Checks.due("extras crossed", Checks.extrasOf(crossed), "0 1 1 0 0 0 0 0 0 0");
    }

    private static void noRound() {
        TourHouse x = Checks.graph(false, 5, 0, 1, 2);
        dueRound(x, 0, 4, "1", "0 1");
        Checks.due("round(2), no edge there", x.round(2), -1);
        Checks.due("row stays", Checks.rowOf(x), "0 1");
        x.edge(2, 3, 2);
        Checks.due("round(0), apart", x.round(0), -1);
        TourHouse away = Checks.graph(true, 3, 0, 1, 1, 1, 2, 1);
        Checks.due("round(0), no way back", away.round(0), -1);
        away.edge(2, 1, 1);
        Checks.due("round(0), no way back", away.round(0), -1);
        Checks.due("round(1), no way back from edge 0", away.round(1), -1);
        away.edge(1, 0, 1);
        dueRound(away, 1, 4, "0 0 0 0", "2 4 6 0");
        TourHouse in = Checks.graph(true, 2, 1, 0, 1, 0, 0, 1);
        Checks.due("round(0), an edge that only comes", in.round(0), -1);
        Checks.due("round(1), no way back", in.round(1), -1);
    }

    private static void atTheLimits() {
        TourHouse none = Checks.graph(true, 16);
        dueRound(none, 15, 0, "", "");
        TourHouse one = Checks.graph(false, 1, 0, 0, HEAVY);
        dueRound(one, 0, HEAVY, "0", "0");
        TourHouse back = Checks.graph(true, 16);
        for (int v = 0; v < 15; v++) {
            back.edge(v, v + 1, HEAVY);
        }
        for (int e = 15; e < 40; e++) {
            back.edge(15, 0, HEAVY);
        }
        Checks.due("round(0) with long ways back", back.round(0), 400L * HEAVY);
        Checks.due("look(3)", back.look(3), 400);
        Checks.due("extra(0)", back.extra(0), 24);
        Checks.due("extra(39)", back.extra(39), 0);
        Checks.due("row(399)", back.row(399), 78);
        TourHouse star = Checks.graph(false, 16);
        for (int v = 1; v < 16; v++) {
            star.edge(0, v, HEAVY);
        }
        Checks.due("round(0) of a star", star.round(0), 30L * HEAVY);
        Checks.due("round(15) of a star", star.round(15), 30L * HEAVY);
        Checks.due("row(0)", star.row(0), 29);
        Checks.due("row(1)", star.row(1), 0);
    }
}

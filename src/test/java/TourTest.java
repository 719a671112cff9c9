/** Promise 6: tour. */
public final class TourTest {
    public static void main(String[] args) {
        leastTours();
        directedTours();
        noTour();
        atTheLimits();
        TourHouse x = Checks.graph(false, 3, 0, 1, 1, 0, 1, 1);
        x.tour(0);
        for (int v : new int[] {-1, 3, Integer.MIN_VALUE, Integer.MAX_VALUE}) {
            Checks.dueThrow("tour(" + v + ")", x, IllegalArgumentException.class, () -> x.tour(v));
        }
        Checks.finish();
    }

    private static void leastTours() {
        TourHouse x = Checks.graph(false, 5, 0, 1, 3, 1, 2, 4, 2, 0, 5, 2, 3, 1, 3, 4, 1, 4, 2, 1);
        Checks.due("tour(0)", x.tour(0), 6);
        Checks.due("row of tour(0)", Checks.rowOf(x), "0 2 6 8 10 4");
        Checks.due("tour(3)", x.tour(3), 6);
        Checks.due("row of tour(3)", Checks.rowOf(x), "7 3 1 5 11 9");
        TourHouse loops = Checks.graph(false, 2, 0, 1, 1, 0, 0, 1, 1, 1, 1, 1, 0, 1);
        Checks.due("tour(0) with loops", loops.tour(0), 4);
        Checks.due("row of tour(0) with loops", Checks.rowOf(loops), "0 4 6 2");
        Checks.due("tour(1) with loops", loops.tour(1), 4);
        Checks.due("row of tour(1) with loops", Checks.rowOf(loops), "1 2 7 4");
        TourHouse twice = Checks.graph(false, 2, 1, 0, 1, 0, 1, 1);
        Checks.due("tour(0) there and back", twice.tour(0), 2);
        Checks.due("row there and back", Checks.rowOf(twice), "1 3");
    }

    private static void directedTours() {
        TourHouse x = Checks.graph(true, 4, 0, 1, 1, 1, 2, 1, 2, 0, 1, 0, 2, 5, 2, 3, 2, 3, 0, 9);
        Checks.due("directed tour(0)", x.tour(0), 6);
        Checks.due("row of directed tour(0)", Checks.rowOf(x), "0 2 4 6 8 10");
        Checks.due("directed tour(3)", x.tour(3), 6);
        Checks.due("row of directed tour(3)", Checks.rowOf(x), "10 0 2 4 6 8");
        TourHouse ring = Checks.graph(true, 3, 1, 0, 1, 2, 1, 1, 0, 2, 1);
        Checks.due("tour(0) of a ring", ring.tour(0), 3);
        Checks.due("row of a ring", Checks.rowOf(ring), "4 2 0");
        TourHouse loop = Checks.graph(true, 1, 0, 0, 1, 0, 0, 1);
        Checks.due("tour(0) of loops", loop.tour(0), 2);
        Checks.due("row of loops", Checks.rowOf(loop), "0 2");
    }

    private static void noTour() {
        TourHouse x = Checks.graph(false, 5, 0, 1, 1, 1, 0, 1, 2, 3, 1);
        x.round(0);
        Checks.due("tour(0), odd and apart", x.tour(0), -2);
        Checks.due("tour(4), odd and apart", x.tour(4), -2);
        x.edge(3, 2, 1);
        Checks.due("tour(0), apart", x.tour(0), -1);
        Checks.due("tour(4), no edge there", x.tour(4), -1);
        TourHouse y = Checks.graph(false, 3, 0, 1, 1, 0, 1, 1);
        y.tour(1);
        Checks.due("tour(2)", y.tour(2), -1);
        Checks.due("row stays", Checks.rowOf(y), "1 2");
        TourHouse z = Checks.graph(false, 2, 0, 1, 1);
        z.round(0);
        Checks.due("tour(0) of one edge", z.tour(0), -2);
        Checks.due("row stays with -2", Checks.rowOf(z), "0 1");
        Checks.due("extra stays with -2", z.extra(0), 1);
        TourHouse there = Checks.graph(true, 2, 0, 1, 1, 0, 1, 1);
        Checks.due("directed tour(0), both away", there.tour(0), -2);
        TourHouse apart = Checks.graph(true, 4, 0, 1, 1, 1, 0, 1, 2, 3, 1, 3, 2, 1);
        Checks.due("directed tour(0), apart", apart.tour(0), -1);
    }

    private static void atTheLimits() {
        TourHouse x = Checks.graph(false, 16);
        Checks.due("tour(7) without edges", x.tour(7), 0);
        Checks.due("look(3)", x.look(3), 0);
        for (int e = 0; e < 40; e++) {
            x.edge(15, 15, 1000000000);
        }
        Checks.due("tour(15) of 40 loops", x.tour(15), 40);
        Checks.due("row(39)", x.row(39), 78);
        Checks.due("tour(0)", x.tour(0), -1);
        Checks.due("look(3)", x.look(3), 40);
    }
}

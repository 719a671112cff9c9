import java.util.NoSuchElementException;

/** Promise 3: edge. */
public final class EdgeTest {
    private static final int MIN = Integer.MIN_VALUE;
    private static final int MAX = Integer.MAX_VALUE;

    public static void main(String[] args) {
        numbersAndWeights();
        wrongArguments();
        fortyEdges(false);
        fortyEdges(true);
        aChangeEmptiesTheRow();
        Checks.finish();
    }

    private static void numbersAndWeights() {
        TourHouse x = Checks.graph(false, 2);
        Checks.due("edge(0, 1, 0)", x.edge(0, 1, 0), 0);
        Checks.due("distance(0, 1)", x.distance(0, 1), 0);
        x.drop();
        Checks.due("edge(1, 0, 1000000000)", x.edge(1, 0, 1000000000), 0);
        Checks.due("distance(0, 1)", x.distance(0, 1), 1000000000);
        Checks.due("edge(1, 1, 7)", x.edge(1, 1, 7), 1);
        Checks.due("look(1)", x.look(1), 2);
        Checks.due("step 0 goes from 1", Checks.judged(x, 1, 0), -2);
        Checks.due("step 1 goes from 0", Checks.judged(x, 0, 1), -2);
        Checks.due("step 0 does not go from 0", Checks.judged(x, 0, 0), -1);
    }

    private static void wrongArguments() {
        TourHouse x = Checks.graph(false, 3, 0, 1, 1, 1, 2, 1);
        x.round(0);
        int[][] wrong = {{-1, 0, 1}, {3, 0, 1}, {0, -1, 1}, {0, 3, 1}, {0, 1, -1}, {0, 1, 1000000001},
            {MIN, 0, 1}, {MAX, 0, 1}, {0, MIN, 1}, {0, MAX, 1}, {0, 0, MIN}, {0, 0, MAX}, {16, 16, 1}};
        for (int[] w : wrong) {
            Checks.dueThrow("edge(" + w[0] + ", " + w[1] + ", " + w[2] + ")", x, IllegalArgumentException.class,
                () -> x.edge(w[0], w[1], w[2]));
        }
    }

    private static void fortyEdges(boolean directed) {
        TourHouse x = Checks.graph(directed, 16);
        for (int e = 0; e < 40; e++) {
            Checks.due("edge " + e, x.edge(e % 16, (e + 1) % 16, e), e);
        }
        Checks.dueThrow("edge 40", x, IllegalStateException.class, () -> x.edge(0, 1, 1));
        Checks.dueThrow("edge 40, wrong vertex", x, IllegalArgumentException.class, () -> x.edge(0, 16, 1));
        Checks.dueThrow("edge 40, wrong weight", x, IllegalArgumentException.class, () -> x.edge(0, 1, -1));
        Checks.due("drop()", x.drop(), 39);
        Checks.due("edge 39 again", x.edge(0, 0, 1), 39);
    }

    private static void aChangeEmptiesTheRow() {
        TourHouse x = Checks.graph(false, 2, 0, 1, 1);
        x.round(0);
        x.step(0);
        x.edge(0, 1, 1);
        Checks.due("look(3)", x.look(3), 0);
        Checks.due("look(6)", x.look(6), 1);
        Checks.dueThrow("row(0)", x, NoSuchElementException.class, () -> x.row(0));
        Checks.dueThrow("extra(0)", x, IllegalStateException.class, () -> x.extra(0));
    }
}

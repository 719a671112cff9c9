import java.util.function.Supplier;

/** The document's promises 1 to 5, one method for each sentence or part of one, with ordinary inputs. */
public final class DocumentGraphTest {
    public static void main(String[] args) {
        newObject();
        resetMakesANewGraph();
        resetAnswersTheOldEdges();
        resetRefuses();
        edgeAddsOne();
        edgeAnswersItsNumber();
        edgeRefusesVertices();
        edgeRefusesWeights();
        edgeRefusesTheFortyFirst();
        dropTakesTheLast();
        dropAnswersItsNumber();
        dropRefuses();
        distanceIsTheLeastCost();
        distanceWithoutAWalk();
        distanceRefuses();
        Checks.finish();
    }

    private static void newObject() {
        Checks.sentence("Not directed, one vertex, no edges; ROW and PATH are empty.");
        TourHouse x = new TourHouse();
        Bounds.dueLooks("of a new object", x, 1, 0, 0, 0, 0, -1, 0, 0, 0);
        Checks.dueThrow("row(0)", x, Bounds.NONE, () -> x.row(0));
        Checks.dueThrow("distance(0, 1)", x, Bounds.ARGUMENT, () -> x.distance(0, 1));
        Checks.dueThrow("drop()", x, Bounds.STATE, x::drop);
        Checks.due("step(0)", x.step(0), 1);
    }

    private static void resetMakesANewGraph() {
        Checks.sentence("A new graph without edges");
        TourHouse x = Checks.graph(true, 6, 0, 5, 1, 5, 0, 1);
        x.reset(false, 4);
        Bounds.dueLooks("behind reset(false, 4)", x, 4, 0, 0, 0, 0, -1, 0, 0, 0);
        Checks.due("edge(0, 3, 2)", x.edge(0, 3, 2), 0);
        Checks.due("distance(3, 0)", x.distance(3, 0), 2);
        x.reset(true, 7);
        Bounds.dueLooks("behind reset(true, 7)", x, 7, 0, 1, 0, 0, -1, 0, 0, 0);
        x.edge(0, 6, 2);
        Checks.due("distance(0, 6)", x.distance(0, 6), 2);
        Checks.due("distance(6, 0)", x.distance(6, 0), -1);
    }

    private static void resetAnswersTheOldEdges() {
        Checks.sentence("how many the old one had");
        TourHouse x = Checks.graph(true, 6, 0, 5, 1, 5, 0, 1, 2, 2, 2);
        Checks.due("reset(true, 6)", x.reset(true, 6), 3);
        Checks.due("reset(true, 6) again", x.reset(true, 6), 0);
    }

    private static void resetRefuses() {
        Checks.sentence("Throws IllegalArgumentException when n is not 1 .. 16.");
        TourHouse x = Bounds.busy(false, 5);
        for (int n : new int[] {-3, 0, 17, 40}) {
            Checks.dueThrow("reset(true, " + n + ")", x, Bounds.ARGUMENT, () -> x.reset(true, n));
        }
        Checks.due("reset(true, 16)", x.reset(true, 16), 4);
        Checks.due("reset(true, 1)", x.reset(true, 1), 0);
    }

    private static void edgeAddsOne() {
        Checks.sentence("One edge more, from a to b");
        for (boolean directed : Bounds.BOTH) {
            TourHouse x = Checks.graph(directed, 4, 0, 1, 5);
            x.edge(1, 3, 6);
            Bounds.dueLooks("of two edges", x, 4, 2, directed ? 1 : 0, 0, 2, 0, 0, 1, 3);
            Checks.due("distance(1, 3)", x.distance(1, 3), 6);
            Checks.due("distance(3, 1)", x.distance(3, 1), directed ? -1 : 6);
            Checks.due("distance(0, 3)", x.distance(0, 3), 11);
            Checks.due("step 2 goes from 1", Checks.judged(x, 1, 2), -2);
        }
    }

    private static void edgeAnswersItsNumber() {
        Checks.sentence("its number");
        TourHouse x = Checks.graph(true, 3);
        Checks.due("edge(2, 0, 9)", x.edge(2, 0, 9), 0);
        Checks.due("edge(2, 2, 8)", x.edge(2, 2, 8), 1);
        Checks.due("edge(2, 0, 9), one like it", x.edge(2, 0, 9), 2);
        Checks.due("drop()", x.drop(), 2);
        Checks.due("edge(0, 2, 7)", x.edge(0, 2, 7), 2);
    }

    private static void edgeRefusesVertices() {
        Checks.sentence("Throws IllegalArgumentException when there is no such vertex");
        TourHouse x = Bounds.busy(true, 5);
        for (int v : new int[] {-1, 5, 15, 16}) {
            Checks.dueThrow("edge(" + v + ", 0, 1)", x, Bounds.ARGUMENT, () -> x.edge(v, 0, 1));
            Checks.dueThrow("edge(0, " + v + ", 1)", x, Bounds.ARGUMENT, () -> x.edge(0, v, 1));
        }
        Checks.due("edge(4, 0, 1)", x.edge(4, 0, 1), 4);
    }

    private static void edgeRefusesWeights() {
        Checks.sentence("or the weight is not as told");
        TourHouse x = Bounds.busy(true, 5);
        for (int weight : new int[] {-7, -1, 1000000001, 2000000000}) {
            Checks.dueThrow("edge(0, 1, " + weight + ")", x, Bounds.ARGUMENT, () -> x.edge(0, 1, weight));
        }
        Checks.due("edge(0, 1, 1000000000)", x.edge(0, 1, 1000000000), 4);
        Checks.due("edge(0, 1, 0)", x.edge(0, 1, 0), 5);
    }

    private static void edgeRefusesTheFortyFirst() {
        Checks.sentence("IllegalStateException when there are 40.");
        TourHouse x = Checks.graph(false, 3);
        for (int e = 0; e < 40; e++) {
            Checks.due("edge " + e, x.edge(e % 3, (e + 1) % 3, 1), e);
        }
        Checks.dueThrow("edge 40", x, Bounds.STATE, () -> x.edge(0, 1, 1));
        x.drop();
        Checks.due("edge 39 again", x.edge(0, 1, 1), 39);
    }

    private static void dropTakesTheLast() {
        Checks.sentence("The last edge goes");
        TourHouse x = Checks.graph(false, 4, 0, 1, 5, 1, 2, 6, 2, 3, 7);
        x.drop();
        Bounds.dueLooks("of two edges", x, 4, 2, 0, 0, 2, 0, 0, 1, 3);
        Checks.due("distance(0, 2)", x.distance(0, 2), 11);
        Checks.due("distance(2, 3)", x.distance(2, 3), -1);
        Checks.due("judge(2) of step 4", Checks.judged(x, 2, 4), -1);
        Checks.due("judge(0) of what stays", Checks.judged(x, 0, 0, 2, 3, 1), 22);
    }

    private static void dropAnswersItsNumber() {
        Checks.sentence("its number");
        TourHouse x = Checks.graph(true, 4, 0, 1, 5, 1, 2, 6, 2, 3, 7);
        for (int e = 2; e >= 0; e--) {
            Checks.due("drop()", x.drop(), e);
        }
    }

    private static void dropRefuses() {
        Checks.sentence("Throws IllegalStateException when there is none.");
        TourHouse x = Checks.graph(true, 4, 0, 1, 5);
        Checks.due("drop()", x.drop(), 0);
        Checks.dueThrow("drop()", x, Bounds.STATE, x::drop);
        Checks.dueThrow("drop() again", x, Bounds.STATE, x::drop);
    }

    private static void distanceIsTheLeastCost() {
        Checks.sentence("The least cost of a walk from a to b");
        int[] edges = {0, 1, 9, 0, 2, 3, 2, 1, 3, 1, 3, 1000000000, 3, 4, 1000000000, 4, 5, 1000000000, 1, 0, 1};
        TourHouse x = Checks.graph(true, 6, edges);
        Checks.due("distance(0, 1), over 2", x.distance(0, 1), 6);
        Checks.due("distance(1, 0)", x.distance(1, 0), 1);
        Checks.due("distance(1, 2)", x.distance(1, 2), 4);
        Checks.due("distance(0, 5)", x.distance(0, 5), 3000000006L);
        Checks.due("distance(2, 2), no step", x.distance(2, 2), 0);
        TourHouse y = Checks.graph(false, 6, edges);
        Checks.due("not directed, distance(0, 1)", y.distance(0, 1), 1);
        Checks.due("not directed, distance(5, 2)", y.distance(5, 2), 3000000003L);
        Supplier<TourHouse> busy = () -> Bounds.busy(true, 4);
        Bounds.stays("distance", busy, z -> z.distance(0, 3));
    }

    private static void distanceWithoutAWalk() {
        Checks.sentence("-1 without one");
        TourHouse x = Checks.graph(true, 4, 0, 1, 2, 2, 1, 2);
        Checks.due("distance(1, 0)", x.distance(1, 0), -1);
        Checks.due("distance(0, 2)", x.distance(0, 2), -1);
        Checks.due("distance(3, 0)", x.distance(3, 0), -1);
        TourHouse y = Checks.graph(false, 4, 0, 1, 2, 2, 1, 2);
        Checks.due("not directed, distance(0, 2)", y.distance(0, 2), 4);
        Checks.due("not directed, distance(0, 3)", y.distance(0, 3), -1);
        Bounds.stays("distance of -1", () -> Bounds.busy(true, 4), z -> z.distance(0, 1));
    }

    private static void distanceRefuses() {
        Checks.sentence("Throws IllegalArgumentException when there is no such vertex.");
        TourHouse x = Bounds.busy(false, 4);
        for (int v : new int[] {-1, 4, 16}) {
            Checks.dueThrow("distance(" + v + ", 0)", x, Bounds.ARGUMENT, () -> x.distance(v, 0));
            Checks.dueThrow("distance(0, " + v + ")", x, Bounds.ARGUMENT, () -> x.distance(0, v));
        }
    }
}

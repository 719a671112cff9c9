/** The boundary cases of promise 1: "Not directed, one vertex, no edges; ROW and PATH are empty." */
public final class NewObjectBoundsTest {
    public static void main(String[] args) {
        notDirected();
        oneVertex();
        noEdges();
        rowIsEmpty();
        pathIsEmpty();
        nothingOfAnotherObject();
        Checks.finish();
    }

    private static void notDirected() {
        Checks.due("look(2)", new TourHouse().look(2), 0);
    }

    private static void oneVertex() {
        Checks.due("look(0)", new TourHouse().look(0), 1);
        Checks.due("distance(0, 0)", new TourHouse().distance(0, 0), 0);
        Checks.due("tour(0)", new TourHouse().tour(0), 0);
        Checks.due("round(0)", new TourHouse().round(0), 0);
        Checks.due("judge(0)", new TourHouse().judge(0), 0);
        Checks.due("edge(0, 0, 0)", new TourHouse().edge(0, 0, 0), 0);
        for (int v : Bounds.outside(0, 0)) {
            Bounds.refused("distance(" + v + ", 0)", TourHouse::new, Bounds.ARGUMENT, x -> x.distance(v, 0));
            Bounds.refused("distance(0, " + v + ")", TourHouse::new, Bounds.ARGUMENT, x -> x.distance(0, v));
            Bounds.refused("edge(" + v + ", 0, 0)", TourHouse::new, Bounds.ARGUMENT, x -> x.edge(v, 0, 0));
            Bounds.refused("edge(0, " + v + ", 0)", TourHouse::new, Bounds.ARGUMENT, x -> x.edge(0, v, 0));
            Bounds.refused("tour(" + v + ")", TourHouse::new, Bounds.ARGUMENT, x -> x.tour(v));
            Bounds.refused("round(" + v + ")", TourHouse::new, Bounds.ARGUMENT, x -> x.round(v));
            Bounds.refused("judge(" + v + ")", TourHouse::new, Bounds.ARGUMENT, x -> x.judge(v));
        }
    }

    private static void noEdges() {
        Bounds.dueLooks("of a new object", new TourHouse(), 1, 0, 0, 0, 0, -1, 0, 0, 0);
        Checks.due("reset(true, 1)", new TourHouse().reset(true, 1), 0);
        Bounds.refused("drop()", TourHouse::new, Bounds.STATE, TourHouse::drop);
        for (int e : Bounds.outside(0, -1)) {
            Bounds.refused("extra(" + e + ")", TourHouse::new, Bounds.NONE, x -> x.extra(e));
        }
    }

    private static void rowIsEmpty() {
        Checks.due("look(3)", new TourHouse().look(3), 0);
        for (int k : Bounds.outside(0, -1)) {
            Bounds.refused("row(" + k + ")", TourHouse::new, Bounds.NONE, x -> x.row(k));
        }
    }

    private static void pathIsEmpty() {
        Checks.due("look(6)", new TourHouse().look(6), 0);
        Checks.due("step(0)", new TourHouse().step(0), 1);
    }

    private static void nothingOfAnotherObject() {
        TourHouse busy = Bounds.full(true);
        TourHouse x = new TourHouse();
        Bounds.dueLooks("beside a busy object", x, 1, 0, 0, 0, 0, -1, 0, 0, 0);
        x.edge(0, 0, 1);
        x.step(0);
        x.round(0);
        Checks.due("judge(0) of the busy object", busy.judge(0), 780 + 92);
        Checks.due("look(1) of the busy object", busy.look(1), 40);
        Checks.due("look(3) of the busy object", busy.look(3), 48);
    }
}

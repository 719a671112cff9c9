import java.util.function.IntConsumer;

/** "An object is used for at most 512 calls after it has been made": the 512th still answers as the first. */
public final class CallsBoundsTest {
    private static final int MOST_CALLS = 512;

    public static void main(String[] args) {
        for (boolean directed : Bounds.BOTH) {
            resets(directed);
            edgesAndDrops(directed);
            rounds(directed);
            toursAndDistances(directed);
            stepsUpToTheLast(directed);
            judges(directed);
            refusals(directed);
        }
        roundsOfSixteenOddVertices();
        Checks.finish();
    }

    private static void repeat(int callsMade, int callsEach, IntConsumer calls) {
        for (int call = callsMade; call + callsEach <= MOST_CALLS; call += callsEach) {
            calls.accept(call);
        }
    }

    private static void resets(boolean directed) {
        TourHouse x = new TourHouse();
        repeat(0, 1, call -> Checks.due("reset " + call, x.reset(directed, 1 + call % 16), 0));
    }

    private static void edgesAndDrops(boolean directed) {
        TourHouse x = new TourHouse();
        repeat(0, 2, call -> {
            Checks.due("edge in call " + call, x.edge(0, 0, call), 0);
            Checks.due("drop in call " + call, x.drop(), 0);
        });
        TourHouse y = Checks.graph(directed, 16);
        repeat(1, 1, call -> {
            boolean up = (call - 1) / 40 % 2 == 0;
            int e = (call - 1) % 40;
            Checks.due("edge or drop in call " + call, up ? y.edge(e % 16, e % 7, e) : y.drop(), up ? e : 39 - e);
        });
    }

    private static void rounds(boolean directed) {
        TourHouse x = Checks.graph(directed, 16);
        for (int v = 0; v < 15; v++) {
            x.edge(v, v + 1, Bounds.HEAVY);
        }
        for (int e = 15; e < 40; e++) {
            x.edge(15, 0, Bounds.HEAVY);
        }
        repeat(41, 2, call -> {
            Checks.due("round in call " + call, x.round(call % 16), (directed ? 400L : 40L) * Bounds.HEAVY);
            Checks.due("look(3) in call " + call, x.look(3), directed ? 400 : 40);
        });
    }

    private static void roundsOfSixteenOddVertices() {
        TourHouse x = Checks.graph(false, 16);
        for (int e = 0; e < 40; e++) {
            // A ring, the eight chords across it, and a second ring: five ends lie at each vertex.
            int hop = e < 16 ? 1 : e < 24 ? 8 : 3;
            int from = e < 16 ? e : e < 24 ? e - 16 : e - 24;
            x.edge(from, (from + hop) % 16, 1);
        }
        Checks.due("look(4)", x.look(4), 16);
        repeat(42, 2, call -> {
            Checks.due("round in call " + call, x.round(call % 16), 48);
            Checks.due("look(3) in call " + call, x.look(3), 48);
        });
    }

    private static void toursAndDistances(boolean directed) {
        TourHouse x = Checks.graph(directed, 16);
        for (int e = 0; e < 32; e++) {
            x.edge(e % 16, (e + 1) % 16, 1);
        }
        repeat(33, 2, call -> {
            Checks.due("tour in call " + call, x.tour(call % 16), 32);
            Checks.due("distance in call " + call, x.distance(0, 8), 8);
        });
    }

    private static void stepsUpToTheLast(boolean directed) {
        TourHouse x = Checks.graph(directed, 1, 0, 0, Bounds.HEAVY);
        repeat(2, 1, call -> Checks.due("step in call " + call, x.step(0), call - 1));
        TourHouse y = Checks.graph(directed, 1, 0, 0, Bounds.HEAVY);
        for (int k = 1; k <= 509; k++) {
            y.step(0);
        }
        Checks.due("judge in call 512", y.judge(0), 509L * Bounds.HEAVY);
    }

    private static void judges(boolean directed) {
        TourHouse x = Checks.graph(directed, 1, 0, 0, 3);
        repeat(2, 2, call -> {
            Checks.due("step in call " + call, x.step(0), 1);
            Checks.due("judge in call " + call, x.judge(0), 3);
        });
    }

    private static void refusals(boolean directed) {
        TourHouse x = new TourHouse();
        x.reset(directed, 2);
        int thrown = 0;
        for (int call = 1; call < MOST_CALLS - 1; call++) {
            try {
                x.edge(0, call + 1, 1);
            } catch (IllegalArgumentException e) {
                thrown++;
            }
        }
        Checks.due("refused edges", thrown, MOST_CALLS - 2);
        Checks.due("edge in call 512", x.edge(0, 1, 1), 0);
    }
}

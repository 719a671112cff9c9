import java.util.Random;
import java.util.function.LongSupplier;

/** Promises 1 to 12: runs of calls, each answer held against the one found by trying everything. */
public final class SmallRunsTest {
    private static final int RUNS = 200;
    private static final int CALLS = 250;
    private static final int MOST_EDGES = 5;

    private final Random random;
    private final TourHouse x = new TourHouse();
    private final PlainHouse plain = new PlainHouse();
    private final int run;
    private int n = 1;
    private int edges = 0;

    private SmallRunsTest(int run) {
        this.run = run;
        random = new Random(run);
    }

    public static void main(String[] args) {
        for (int run = 0; run < RUNS; run++) {
            SmallRunsTest test = new SmallRunsTest(run);
            for (int call = 0; call < CALLS; call++) {
                test.callOnce();
            }
        }
        Checks.finish();
    }

    private void callOnce() {
        switch (random.nextInt(16)) {
            case 0 -> {
                if (random.nextInt(3) == 0) {
                    boolean directed = random.nextBoolean();
                    int vertices = random.nextInt(12) == 0 ? random.nextInt(20) - 1 : 1 + random.nextInt(5);
                    both("reset " + directed + " " + vertices,
                        () -> x.reset(directed, vertices), () -> plain.reset(directed, vertices));
                }
            }
            case 1, 2, 3, 4, 5 -> addEdge();
            case 6 -> both("drop", x::drop, plain::drop);
            case 7 -> {
                int a = vertex();
                int b = vertex();
                both("distance " + a + " " + b, () -> x.distance(a, b), () -> plain.distance(a, b));
            }
            case 8, 9 -> {
                int v = vertex();
                both("tour " + v, () -> x.tour(v), () -> plain.tour(v));
            }
            case 10, 11 -> {
                int v = vertex();
                both("round " + v, () -> x.round(v), () -> plain.round(v));
            }
            case 12 -> {
                int number = random.nextInt(2 * edges + 3) - 1;
                both("step " + number, () -> x.step(number), () -> plain.step(number));
            }
            case 13 -> walkAndJudge();
            default -> lookAtAll();
        }
        n = plain.look(0);
        edges = plain.look(1);
        lookAtAll();
    }

    private void addEdge() {
        if (edges < MOST_EDGES) {
            int a = vertex();
            int b = vertex();
            int[] most = {1, 2, 3, 1000};
            int weight = random.nextInt(20) == 0 ? -1 : random.nextInt(most[random.nextInt(4)]);
            both("edge " + a + " " + b + " " + weight, () -> x.edge(a, b, weight), () -> plain.edge(a, b, weight));
        }
    }

    /** The row as a path, now and then with a step changed, from some vertex. */
    private void walkAndJudge() {
        int length = plain.look(3);
        for (int k = 0; k < length; k++) {
            int number = random.nextInt(30) == 0 ? random.nextInt(2 * edges + 1) : plain.row(k);
            both("step " + number, () -> x.step(number), () -> plain.step(number));
        }
        int v = vertex();
        both("judge " + v, () -> x.judge(v), () -> plain.judge(v));
    }

    private void lookAtAll() {
        for (int what = -1; what <= 9; what++) {
            int w = what;
            both("look " + w, () -> x.look(w), () -> plain.look(w));
        }
        int length = plain.look(3);
        for (int k = -1; k <= length; k++) {
            int place = k;
            both("row " + k, () -> x.row(place), () -> plain.row(place));
        }
        for (int e = -1; e <= edges; e++) {
            int number = e;
            both("extra " + e, () -> x.extra(number), () -> plain.extra(number));
        }
    }

    private int vertex() {
        return random.nextInt(25) == 0 ? random.nextInt(n + 2) - 1 : random.nextInt(n);
    }

    private void both(String call, LongSupplier got, LongSupplier want) {
        Checks.due("run " + run + ": " + call, answer(got), answer(want));
    }

    private static String answer(LongSupplier call) {
        try {
            return String.valueOf(call.getAsLong());
        } catch (RuntimeException e) {
            return e.getClass().getName();
        }
    }
}

import java.util.Arrays;
import java.util.NoSuchElementException;
import java.util.function.Consumer;
import java.util.function.Supplier;

/** What the tests of boundary cases have in common: numbers outside a range, busy objects, refused calls. */
final class Bounds {
    static final int MIN = Integer.MIN_VALUE;
    static final int MAX = Integer.MAX_VALUE;
    static final int HEAVY = 1000000000;
    static final Class<IllegalArgumentException> ARGUMENT = IllegalArgumentException.class;
    static final Class<IllegalStateException> STATE = IllegalStateException.class;
    static final Class<NoSuchElementException> NONE = NoSuchElementException.class;
    static final boolean[] BOTH = {false, true};

    private Bounds() {
    }

    /** The nearest ints on both sides of a range, the outermost ones, and some that look small when cut short. */
    static int[] outside(int least, int greatest) {
        int[] candidates = {MIN, MIN + 1, -HEAVY, -65536, -256, least - 1, greatest + 1,
            256, 65536, 1 << 30, MAX - 1, MAX};
        return Arrays.stream(candidates).filter(i -> i < least || i > greatest).distinct().toArray();
    }

    /**
     * An object with something everywhere: four edges between 0 and n - 1, a round, and a PATH
     * that is a closed walk from 0 and covers. With one vertex all edges are loops.
     */
    static TourHouse busy(boolean directed, int n) {
        int z = n - 1;
        TourHouse x = Checks.graph(directed, n, 0, z, 5, z, 0, 7, z, z, HEAVY, 0, z, 0);
        x.round(0);
        addSteps(x, 0, 4, 2, 6, 2);
        return x;
    }

    /** The same with 40 edges: two and a half times round 16 vertices. */
    static TourHouse full(boolean directed) {
        TourHouse x = Checks.graph(directed, 16);
        for (int e = 0; e < 40; e++) {
            x.edge(e % 16, (e + 1) % 16, e);
            x.step(2 * e);
        }
        for (int e = 8; e < 16; e++) {
            x.step(2 * e);
        }
        x.round(0);
        return x;
    }

    static void addSteps(TourHouse x, int... steps) {
        for (int s : steps) {
            x.step(s);
        }
    }

    static void dueLooks(String when, TourHouse x, int... due) {
        for (int what = 0; what < due.length; what++) {
            Checks.due("look(" + what + ") " + when, x.look(what), due[what]);
        }
    }

    static void dueRound(String of, TourHouse x, int start, long cost, String extras, String row) {
        Checks.due("round(" + start + ") " + of, x.round(start), cost);
        Checks.due("extras " + of, Checks.extrasOf(x), extras);
        Checks.due("row " + of, Checks.rowOf(x), row);
    }

    /** Of two objects made alike one meets a call that is due to throw; behind it both answer alike. */
    static void refused(String call, Supplier<TourHouse> made, Class<? extends RuntimeException> want,
            Consumer<TourHouse> refusedCall) {
        TourHouse x = made.get();
        String thrown = "nothing";
        try {
            refusedCall.accept(x);
        } catch (RuntimeException e) {
            thrown = e.getClass().getName();
        }
        Checks.due(call + " throws", thrown, want.getName());
        Checks.due("behind " + call, answersFrom(x), answersFrom(made.get()));
    }

    /** Of two objects made alike one meets calls that are due to leave all as it is; behind them both answer alike. */
    static void stays(String calls, Supplier<TourHouse> made, Consumer<TourHouse> leavingCalls) {
        TourHouse x = made.get();
        leavingCalls.accept(x);
        Checks.due("behind " + calls, answersFrom(x), answersFrom(made.get()));
    }

    /** All that an object answers from now on, and what it makes of its PATH; few enough calls for any object. */
    private static String answersFrom(TourHouse x) {
        StringBuilder answers = new StringBuilder();
        // Before the looks, so that it shows if one of these takes something away.
        answers.append("row ").append(Checks.rowOf(x)).append(" extras ").append(Checks.extrasOf(x)).append(" looks");
        for (int what = 0; what <= 8; what++) {
            answers.append(' ').append(x.look(what));
        }
        answers.append(" path ").append(x.judge(0)).append(" distances");
        for (int v = 0; v < x.look(0); v++) {
            answers.append(' ').append(x.distance(0, v)).append(' ').append(x.distance(v, 0));
        }
        answers.append(" tour ").append(x.tour(0)).append(' ').append(x.look(3));
        answers.append(" round ").append(x.round(0)).append(" row ").append(Checks.rowOf(x));
        int edges = x.look(1);
        for (int e = 0; e < edges; e++) {
            answers.append(" drop ").append(x.drop());
        }
        return answers.append(" reset ").append(x.reset(false, 1)).toString();
    }
}

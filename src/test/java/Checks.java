/** Counts the answers that are not as due, and tells each of them. */
final class Checks {
    private static int wrong = 0;
    private static String sentence = "";

    private Checks() {
    }

    /** A call that is due to throw. */
    interface Call {
        void run();
    }

    /** The document's words that the checks from here on hold the class to; told with each wrong answer. */
    static void sentence(String words) {
        sentence = "\"" + words + "\": ";
    }

    static void due(String call, long got, long want) {
        if (got != want) {
            tell(call + " answered " + got + ", due is " + want);
        }
    }

    static void due(String call, Object got, Object want) {
        if (!got.equals(want)) {
            tell(call + " answered " + got + ", due is " + want);
        }
    }

    /** The call throws just this exception, and all that can be seen of the object stays as it is. */
    static void dueThrow(String call, TourHouse x, Class<? extends RuntimeException> want, Call made) {
        String before = stateOf(x);
        String thrown = "nothing";
        try {
            made.run();
        } catch (RuntimeException e) {
            thrown = e.getClass().getName();
        }
        due(call + " throws", thrown, want.getName());
        due(call + " leaves", stateOf(x), before);
    }

    /** All that can be seen of an object without changing it. */
    static String stateOf(TourHouse x) {
        StringBuilder state = new StringBuilder();
        for (int what = 0; what <= 8; what++) {
            state.append(x.look(what)).append(what < 8 ? " " : "; row");
        }
        for (int k = 0; k < x.look(3); k++) {
            state.append(' ').append(x.row(k));
        }
        state.append("; extra");
        for (int e = 0; e < x.look(1); e++) {
            state.append(' ').append(extraOrNone(x, e));
        }
        state.append("; distance");
        for (int a = 0; a < x.look(0); a++) {
            for (int b = 0; b < x.look(0); b++) {
                state.append(' ').append(x.distance(a, b));
            }
        }
        return state.toString();
    }

    static String rowOf(TourHouse x) {
        StringBuilder row = new StringBuilder();
        for (int k = 0; k < x.look(3); k++) {
            row.append(k == 0 ? "" : " ").append(x.row(k));
        }
        return row.toString();
    }

    static String extrasOf(TourHouse x) {
        StringBuilder extras = new StringBuilder();
        for (int e = 0; e < x.look(1); e++) {
            extras.append(e == 0 ? "" : " ").append(extraOrNone(x, e));
        }
        return extras.toString();
    }

    /** A graph of edges that are written as from, to, weight, one behind the other. */
    static TourHouse graph(boolean directed, int n, int... edges) {
        TourHouse x = new TourHouse();
        x.reset(directed, n);
        for (int i = 0; i + 2 < edges.length; i += 3) {
            x.edge(edges[i], edges[i + 1], edges[i + 2]);
        }
        return x;
    }

    static long judged(TourHouse x, int start, int... steps) {
        for (int s : steps) {
            x.step(s);
        }
        return x.judge(start);
    }

    static void finish() {
        if (wrong != 0) {
            System.out.println(wrong + " answers are not as due");
            System.exit(1);
        }
    }

    private static String extraOrNone(TourHouse x, int e) {
        try {
            return String.valueOf(x.extra(e));
        } catch (IllegalStateException none) {
            return "none";
        }
    }

    private static void tell(String what) {
        wrong++;
        System.out.println(sentence + what);
    }
}

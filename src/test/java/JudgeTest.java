/** Promise 11: judge. */
public final class JudgeTest {
    public static void main(String[] args) {
        notDirected();
        directed();
        withoutEdges();
        wrongStart();
        Checks.finish();
    }

    private static void dueJudge(TourHouse x, int start, long want, int... steps) {
        Checks.due("judge(" + start + ") of " + java.util.Arrays.toString(steps), Checks.judged(x, start, steps), want);
        Checks.due("look(6) behind judge", x.look(6), 0);
    }

    private static void notDirected() {
        TourHouse x = Checks.graph(false, 4, 0, 1, 3, 1, 2, 4, 2, 0, 5, 2, 2, 6);
        dueJudge(x, 0, 18, 0, 2, 6, 4);
        dueJudge(x, 0, 24, 5, 6, 3, 1, 0, 1);
        dueJudge(x, 0, 24, 0, 1, 0, 2, 6, 4);
        dueJudge(x, 0, -3);
        dueJudge(x, 3, -3);
        dueJudge(x, 0, -3, 0, 2, 4);
        dueJudge(x, 0, -2, 0, 2, 6);
        dueJudge(x, 0, -2, 0);
        dueJudge(x, 0, -1, 0, 2, 7, 4);
        dueJudge(x, 1, -1, 0, 2, 6, 4);
        dueJudge(x, 0, -1, 0, 2, 6, 4, 8);
        dueJudge(x, 0, -1, 0, 4);
        dueJudge(x, 0, -1, -1);
        dueJudge(x, 0, -1, -2);
        dueJudge(x, 0, -1, Integer.MIN_VALUE);
        dueJudge(x, 0, -1, Integer.MAX_VALUE);
        x.drop();
        dueJudge(x, 2, -1, 6);
        dueJudge(x, 0, 12, 0, 2, 4);
    }

    private static void directed() {
        TourHouse x = Checks.graph(true, 3, 0, 1, 3, 1, 0, 0, 1, 1, 1000000000);
        dueJudge(x, 0, 1000000003, 0, 4, 2);
        dueJudge(x, 1, 2000000003, 4, 2, 0, 4);
        dueJudge(x, 0, -1, 0, 1);
        dueJudge(x, 1, -1, 4, 3);
        dueJudge(x, 1, -1, 5);
        dueJudge(x, 0, -2, 0, 4);
        dueJudge(x, 0, -3, 0, 2);
        x.step(0);
        x.step(1);
        x.reset(false, 2);
        x.edge(0, 1, 9);
        Checks.due("judge(0) of a path in another graph", x.judge(0), 18);
    }

    private static void withoutEdges() {
        TourHouse x = Checks.graph(true, 16);
        dueJudge(x, 15, 0);
        dueJudge(x, 15, -1, 0);
    }

    private static void wrongStart() {
        TourHouse x = Checks.graph(false, 2, 0, 1, 8);
        x.step(0);
        x.step(1);
        for (int v : new int[] {-1, 2, 16, Integer.MIN_VALUE, Integer.MAX_VALUE}) {
            Checks.dueThrow("judge(" + v + ")", x, IllegalArgumentException.class, () -> x.judge(v));
        }
        Checks.due("judge(0) of the path that stayed", x.judge(0), 16);
    }
}

import java.util.Arrays;
import java.util.function.Supplier;

/** The boundary cases of promise 11. Each method quotes its sentence. */
public final class JudgeBoundsTest {
    public static void main(String[] args) {
        for (boolean directed : Bounds.BOTH) {
            whichIsEmptyThen(directed);
            ifItIsNone(directed);
            ifItIsNotClosed(directed);
            ifItDoesNotCover(directed);
            theFirstThatHolds(directed);
            itsCost(directed);
            for (int n : new int[] {1, 2, 15, 16}) {
                noSuchVertex(directed, n);
            }
        }
        Checks.finish();
    }

    private static TourHouse triangle(boolean directed) {
        return Checks.graph(directed, 5, 0, 1, 1, 1, 2, 10, 2, 0, 100, 3, 3, 1000);
    }

    private static void dueJudge(TourHouse x, long want, int start, int... steps) {
        String call = "judge(" + start + ") of " + Arrays.toString(steps);
        Checks.due(call, Checks.judged(x, start, steps), want);
        Checks.due("look(6) behind " + call, x.look(6), 0);
        Checks.due("look(1) behind " + call, x.look(1), 4);
    }

    /** "PATH, which is empty then": behind each verdict, and ROW and EXTRA stay. */
    private static void whichIsEmptyThen(boolean directed) {
        TourHouse x = Bounds.busy(directed, 2);
        String row = Checks.rowOf(x);
        String extras = Checks.extrasOf(x);
        Checks.due("judge(0), a cost", x.judge(0), 1000000019);
        Checks.due("judge(0) again, of the empty PATH", x.judge(0), -3);
        dueJudge(x, -1, 0, 4);
        dueJudge(x, -2, 0, 0);
        dueJudge(x, -3, 0, 0, 2);
        dueJudge(x, 1000000019, 0, 0, 4, 2, 6, 2);
        Checks.due("step(0) behind all", x.step(0), 1);
        Checks.due("row behind judge", Checks.rowOf(x), row);
        Checks.due("extras behind judge", Checks.extrasOf(x), extras);
    }

    /** "-1 if it is none": by its first, a later, its last step; by a number that is no step at all. */
    private static void ifItIsNone(boolean directed) {
        TourHouse x = triangle(directed);
        dueJudge(x, -1, 0, 2);
        dueJudge(x, -1, 0, 2, 4, 0);
        dueJudge(x, -1, 0, 0, 4, 2);
        dueJudge(x, -1, 0, 0, 2, 4, 6);
        dueJudge(x, -1, 4, 0);
        dueJudge(x, -1, 3, 7);
        for (int number : Bounds.outside(0, 7)) {
            dueJudge(x, -1, 0, number);
            dueJudge(x, -1, 0, 0, 2, 4, number);
        }
        dueJudge(x, directed ? -1 : -3, 0, 0, 1);
        dueJudge(x, directed ? -1 : -3, 0, 5, 3, 1);
        TourHouse none = Checks.graph(directed, 16);
        Checks.due("judge(0) of step 0 without edges", Checks.judged(none, 0, 0), -1);
        Checks.due("judge(15) of step 1 without edges", Checks.judged(none, 15, 1), -1);
    }

    /** "-2 if it is not closed". */
    private static void ifItIsNotClosed(boolean directed) {
        TourHouse x = triangle(directed);
        dueJudge(x, -2, 0, 0);
        dueJudge(x, -2, 0, 0, 2);
        dueJudge(x, -3, 0, 0, 2, 4);
        dueJudge(x, -2, 0, 0, 2, 4, 0);
        dueJudge(x, -2, 1, 2);
        dueJudge(x, -3, 3, 6);
    }

    /** "-3 if it does not cover". */
    private static void ifItDoesNotCover(boolean directed) {
        TourHouse x = Checks.graph(directed, 2, 0, 0, 1, 0, 1, 10, 1, 0, 100, 1, 1, 1000);
        dueJudge(x, -3, 0);
        dueJudge(x, -3, 1);
        dueJudge(x, -3, 0, 0);
        dueJudge(x, -3, 0, 2, 6, 4);
        dueJudge(x, -3, 0, 0, 2, 4);
        dueJudge(x, -3, 0, 0, 0, 2, 4);
        dueJudge(x, 1111, 0, 0, 2, 6, 4);
        dueJudge(x, 1111, 1, 6, 4, 0, 2);
        dueJudge(x, 1221, 0, 0, 2, 6, 4, 2, 4);
        if (!directed) {
            dueJudge(x, -3, 0, 0, 2, 6, 3);
            dueJudge(x, -3, 0, 0, 5, 6, 4);
            dueJudge(x, 1111, 0, 0, 5, 6, 3);
        }
    }

    /** "-1 if it is none; -2 if it is not closed; -3 if it does not cover": the first of them that holds. */
    private static void theFirstThatHolds(boolean directed) {
        TourHouse x = triangle(directed);
        dueJudge(x, -1, 0, 0, 99);
        dueJudge(x, -1, 0, 0, 2, 4, 99);
        dueJudge(x, -2, 0, 0, 2);
        TourHouse covered = Checks.graph(directed, 2, 0, 1, 1, 1, 0, 1);
        Checks.due("covers, but is not closed", Checks.judged(covered, 0, 0, 2, 0), -2);
        Checks.due("covers, but is no walk", Checks.judged(covered, 0, 0, 2, 2), -1);
        Checks.due("covers and is closed", Checks.judged(covered, 0, 0, 2, 0, 2), 4);
    }

    /** "its cost, if it is one, closed, and covers": from 0 of no step to what no int holds. */
    private static void itsCost(boolean directed) {
        TourHouse none = Checks.graph(directed, 16);
        Checks.due("judge(0) of nothing", none.judge(0), 0);
        Checks.due("judge(15) of nothing", none.judge(15), 0);
        TourHouse free = Checks.graph(directed, 1, 0, 0, 0);
        Checks.due("judge(0) of weight 0", Checks.judged(free, 0, 0, 0), 0);
        TourHouse heavy = Checks.graph(directed, 1, 0, 0, Bounds.HEAVY);
        Checks.due("judge(0) of 2 heavy steps", Checks.judged(heavy, 0, 0, 0), 2L * Bounds.HEAVY);
        Checks.due("judge(0) of 3 heavy steps", Checks.judged(heavy, 0, 0, 0, 0), 3L * Bounds.HEAVY);
        Checks.due("judge(0) of 5 heavy steps", Checks.judged(heavy, 0, 0, 0, 0, 0, 0), 5L * Bounds.HEAVY);
    }

    /** "Throws IllegalArgumentException when there is no such vertex": PATH is not empty then. */
    private static void noSuchVertex(boolean directed, int n) {
        Supplier<TourHouse> busy = () -> Bounds.busy(directed, n);
        Supplier<TourHouse> empty = () -> Checks.graph(directed, n);
        Checks.due("judge(0)", busy.get().judge(0), 1000000019);
        Checks.due("judge(n - 1)", busy.get().judge(n - 1), n == 1 ? 1000000019 : -1);
        for (int v : Bounds.outside(0, n - 1)) {
            Bounds.refused("judge(" + v + ") of " + n, busy, Bounds.ARGUMENT, x -> x.judge(v));
            Bounds.refused("judge(" + v + ") of an empty PATH", empty, Bounds.ARGUMENT, x -> x.judge(v));
            TourHouse x = busy.get();
            Checks.dueThrow("judge(" + v + ")", x, Bounds.ARGUMENT, () -> x.judge(v));
            Checks.due("look(6) behind a refused judge", x.look(6), 5);
        }
    }
}

import java.util.function.Consumer;
import java.util.function.Supplier;

/** The document's promises 6 to 12, one method for each sentence or part of one, with ordinary inputs. */
public final class DocumentWalksTest {
    public static void main(String[] args) {
        tourMakesRow();
        tourWithOddVertices();
        tourWithoutOne();
        roundMakesRow();
        roundWithoutOne();
        noSuchVertex();
        extraOfTheLatestRound();
        extraRefusesEdges();
        extraWithoutARound();
        rowTellsSteps();
        rowRefuses();
        stepComesBehindPath();
        stepRefuses();
        judgeEmptiesPath();
        judgeTellsTheCost();
        judgeOfNoWalk();
        judgeOfNoClosedWalk();
        judgeOfNoCoveringWalk();
        lookTellsNumbers();
        lookTellsOddVertices();
        lookTellsSetsAndVertices();
        rowIsEmptyAndPathStays();
        lookRefuses();
        nothingElseChanges();
        Checks.finish();
    }

    private static TourHouse triangle(boolean directed) {
        return Checks.graph(directed, 4, 0, 1, 1, 1, 2, 10, 2, 0, 100);
    }

    private static void tourMakesRow() {
        Checks.sentence("ROW becomes the least tour from a vertex: how many steps");
        TourHouse x = triangle(false);
        Checks.due("tour(0)", x.tour(0), 3);
        Checks.due("row of tour(0)", Checks.rowOf(x), "0 2 4");
        Checks.due("tour(1)", x.tour(1), 3);
        Checks.due("row of tour(1)", Checks.rowOf(x), "1 5 3");
        TourHouse y = triangle(true);
        y.edge(1, 1, 1000);
        Checks.due("directed tour(1)", y.tour(1), 4);
        Checks.due("row of directed tour(1)", Checks.rowOf(y), "2 4 0 6");
        Checks.due("tour(3) without edges", Checks.graph(true, 4).tour(3), 0);
    }

    private static void tourWithOddVertices() {
        Checks.sentence("-2 when a vertex is odd ... (ROW stays with both)");
        TourHouse x = Checks.graph(false, 4, 0, 1, 1, 1, 2, 1);
        x.round(1);
        Checks.due("tour(0)", x.tour(0), -2);
        Checks.due("tour(3), where no edge is", x.tour(3), -2);
        Checks.due("row of round(1)", Checks.rowOf(x), "1 0 2 3");
        Bounds.stays("tour of -2", () -> Bounds.busy(true, 4), y -> Checks.due("tour(0)", y.tour(0), -2));
    }

    private static void tourWithoutOne() {
        Checks.sentence("-1 when there is none (ROW stays with both)");
        TourHouse x = triangle(true);
        x.tour(1);
        Checks.due("tour(3), where no edge is", x.tour(3), -1);
        Checks.due("row of tour(1)", Checks.rowOf(x), "2 4 0");
        x.edge(3, 3, 1);
        Checks.due("tour(0), edges apart", x.tour(0), -1);
        Checks.due("tour(3), edges apart", x.tour(3), -1);
        Supplier<TourHouse> made = () -> {
            TourHouse y = triangle(false);
            y.round(2);
            Bounds.addSteps(y, 0, 2, 4);
            return y;
        };
        Bounds.stays("tour of -1", made, y -> Checks.due("tour(3)", y.tour(3), -1));
    }

    private static void roundMakesRow() {
        Checks.sentence("ROW becomes the round from a vertex: its cost");
        TourHouse x = Checks.graph(false, 4, 0, 1, 1, 1, 2, 10, 2, 0, 100, 2, 1, 1000);
        Bounds.dueRound("from 0", x, 0, 1121, "0 1 0 0", "0 2 3 7 4");
        Bounds.dueRound("from 2", x, 2, 1121, "0 1 0 0", "3 1 5 3 7");
        TourHouse y = triangle(true);
        y.edge(1, 2, 1000);
        Bounds.dueRound("directed, from 1", y, 1, 1212, "1 0 1 0", "2 4 0 6 4 0");
        Checks.due("round(3) without edges", Checks.graph(true, 4).round(3), 0);
    }

    private static void roundWithoutOne() {
        Checks.sentence("-1 when no closed walk from there covers (ROW stays)");
        TourHouse x = Checks.graph(false, 4, 0, 1, 1, 1, 2, 1);
        x.round(1);
        Checks.due("round(3), where no edge is", x.round(3), -1);
        Checks.due("row of round(1)", Checks.rowOf(x), "1 0 2 3");
        x.edge(3, 3, 1);
        Checks.due("round(0), edges apart", x.round(0), -1);
        TourHouse y = Checks.graph(true, 3, 0, 1, 1, 1, 0, 1, 1, 2, 1);
        Checks.due("directed round(0), no way back from 2", y.round(0), -1);
        TourHouse z = Checks.graph(true, 3, 0, 1, 1, 1, 0, 1, 2, 1, 1);
        Checks.due("directed round(0), no way to 2", z.round(0), -1);
        Bounds.stays("round of -1", () -> Bounds.busy(true, 4), w -> Checks.due("round(1)", w.round(1), -1));
    }

    private static void noSuchVertex() {
        Checks.sentence("Throws IllegalArgumentException when there is no such vertex.");
        TourHouse x = Bounds.busy(true, 4);
        for (int v : new int[] {-1, 4, 16}) {
            Checks.dueThrow("tour(" + v + ")", x, Bounds.ARGUMENT, () -> x.tour(v));
            Checks.dueThrow("round(" + v + ")", x, Bounds.ARGUMENT, () -> x.round(v));
            Checks.dueThrow("judge(" + v + ")", x, Bounds.ARGUMENT, () -> x.judge(v));
        }
    }

    private static void extraOfTheLatestRound() {
        Checks.sentence("EXTRA of an edge in the latest round.");
        TourHouse x = Checks.graph(false, 3, 0, 1, 1, 1, 2, 10);
        x.round(0);
        Checks.due("extras", Checks.extrasOf(x), "1 1");
        x.edge(2, 0, 100);
        x.round(0);
        Checks.due("extras of the next round", Checks.extrasOf(x), "0 0 0");
        x.edge(0, 2, 1000);
        x.round(1);
        Checks.due("extras of the third round", Checks.extrasOf(x), "1 1 0 0");
        Checks.due("tour(0)", x.tour(0), -2);
        Checks.due("extras behind a tour", Checks.extrasOf(x), "1 1 0 0");
    }

    private static void extraRefusesEdges() {
        Checks.sentence("Throws NoSuchElementException when there is no such edge");
        TourHouse x = Bounds.busy(false, 4);
        TourHouse noRound = triangle(false);
        for (int e : new int[] {-1, 4, 39, 40}) {
            Checks.dueThrow("extra(" + e + ")", x, Bounds.NONE, () -> x.extra(e));
            Checks.dueThrow("extra(" + e + "), no round", noRound, Bounds.NONE, () -> noRound.extra(e));
        }
    }

    private static void extraWithoutARound() {
        Checks.sentence("IllegalStateException when there was no round (that was no -1) since the graph last changed.");
        dueNoExtra("at first", x -> { });
        dueNoExtra("behind a tour", x -> x.tour(0));
        dueNoExtra("behind a round of -1", x -> x.round(3));
        dueNoExtra("behind an edge", x -> {
            x.round(0);
            x.edge(0, 0, 1);
        });
        dueNoExtra("behind drop", x -> {
            x.round(0);
            x.drop();
        });
        dueNoExtra("behind reset", x -> {
            x.round(0);
            x.reset(false, 4);
            x.edge(0, 1, 1);
        });
        TourHouse x = triangle(false);
        x.round(0);
        x.round(3);
        Checks.due("extra(0), a round of -1 behind the round", x.extra(0), 0);
    }

    private static void dueNoExtra(String when, Consumer<TourHouse> calls) {
        TourHouse x = triangle(false);
        calls.accept(x);
        Checks.dueThrow("extra(0) " + when, x, Bounds.STATE, () -> x.extra(0));
    }

    private static void rowTellsSteps() {
        Checks.sentence("Step k of ROW.");
        TourHouse x = triangle(false);
        x.tour(2);
        int[] due = {3, 1, 5};
        for (int k = 0; k < 3; k++) {
            Checks.due("row(" + k + ")", x.row(k), due[k]);
        }
        Checks.due("row(0) again", x.row(0), 3);
    }

    private static void rowRefuses() {
        Checks.sentence("Throws NoSuchElementException when there is none.");
        TourHouse x = triangle(false);
        Checks.dueThrow("row(0) of no row", x, Bounds.NONE, () -> x.row(0));
        x.tour(2);
        for (int k : new int[] {-1, 3, 40}) {
            Checks.dueThrow("row(" + k + ")", x, Bounds.NONE, () -> x.row(k));
        }
    }

    private static void stepComesBehindPath() {
        Checks.sentence("A step comes behind PATH (whatever number): how many it has.");
        TourHouse x = triangle(true);
        int[] numbers = {0, 2, 4};
        for (int k = 0; k < 3; k++) {
            Checks.due("step(" + numbers[k] + ")", x.step(numbers[k]), k + 1);
        }
        Checks.due("judge(0)", x.judge(0), 111);
        int[] others = {-5, 1, 77, 1000000};
        for (int k = 0; k < 4; k++) {
            Checks.due("step(" + others[k] + ")", x.step(others[k]), k + 1);
        }
        Checks.due("look(6)", x.look(6), 4);
    }

    private static void stepRefuses() {
        Checks.sentence("Throws IllegalStateException when it has 1000.");
        TourHouse x = Checks.graph(true, 1, 0, 0, 3);
        for (int k = 1; k <= 1000; k++) {
            Checks.due("step " + k, x.step(0), k);
        }
        Checks.dueThrow("step(0) behind 1000", x, Bounds.STATE, () -> x.step(0));
        Checks.due("judge(0)", x.judge(0), 3000);
        Checks.due("step(0) behind judge", x.step(0), 1);
    }

    private static void judgeEmptiesPath() {
        Checks.sentence("PATH, which is empty then, as a walk from a vertex");
        int[][] paths = {{0, 2, 4}, {2}, {0}, {}};
        long[] due = {111, -1, -2, -3};
        for (int i = 0; i < paths.length; i++) {
            TourHouse x = triangle(true);
            Checks.due("judge(0) of path " + i, Checks.judged(x, 0, paths[i]), due[i]);
            Checks.due("look(6) behind it", x.look(6), 0);
            Checks.due("judge(0) of the empty PATH", x.judge(0), -3);
        }
        TourHouse x = triangle(true);
        Checks.due("judge(1) of 2 4 0", Checks.judged(x, 1, 2, 4, 0), 111);
        Checks.due("judge(2) of 2 4 0", Checks.judged(x, 2, 2, 4, 0), -1);
    }

    private static void judgeTellsTheCost() {
        Checks.sentence("its cost, if it is one, closed, and covers");
        TourHouse x = triangle(false);
        Checks.due("judge(0) of 0 2 4", Checks.judged(x, 0, 0, 2, 4), 111);
        Checks.due("judge(2) of 3 1 5", Checks.judged(x, 2, 3, 1, 5), 111);
        Checks.due("judge(0) of a longer one", Checks.judged(x, 0, 0, 1, 5, 3, 2, 3, 1), 133);
        Checks.due("judge(3) without edges", Checks.graph(false, 4).judge(3), 0);
    }

    private static void judgeOfNoWalk() {
        Checks.sentence("-1 if it is none");
        TourHouse x = triangle(false);
        Checks.due("judge(0) of 2", Checks.judged(x, 0, 2), -1);
        Checks.due("judge(0) of 0 4", Checks.judged(x, 0, 0, 4), -1);
        Checks.due("judge(0) of 0 2 4 and a wrong one", Checks.judged(x, 0, 0, 2, 4, 6), -1);
        Checks.due("judge(0) of -2", Checks.judged(x, 0, -2), -1);
        TourHouse y = triangle(true);
        Checks.due("directed judge(0) of 5 3 1", Checks.judged(y, 0, 5, 3, 1), -1);
    }

    private static void judgeOfNoClosedWalk() {
        Checks.sentence("-2 if it is not closed");
        TourHouse x = triangle(false);
        Checks.due("judge(0) of 0", Checks.judged(x, 0, 0), -2);
        Checks.due("judge(0) of 0 2 4 0", Checks.judged(x, 0, 0, 2, 4, 0), -2);
        Checks.due("judge(1) of 2", Checks.judged(x, 1, 2), -2);
    }

    private static void judgeOfNoCoveringWalk() {
        Checks.sentence("-3 if it does not cover");
        TourHouse x = triangle(false);
        Checks.due("judge(0) of nothing", x.judge(0), -3);
        Checks.due("judge(0) of 0 1", Checks.judged(x, 0, 0, 1), -3);
        Checks.due("judge(0) of 0 2 3 1", Checks.judged(x, 0, 0, 2, 3, 1), -3);
    }

    private static void lookTellsNumbers() {
        Checks.sentence("0 vertices, 1 edges, 2 whether it is directed (1, 0), 3 steps of ROW, ... 6 steps of PATH");
        for (boolean directed : Bounds.BOTH) {
            TourHouse x = triangle(directed);
            Bounds.addSteps(x, 9, 9);
            Checks.due("look(0)", x.look(0), 4);
            Checks.due("look(1)", x.look(1), 3);
            Checks.due("look(2)", x.look(2), directed ? 1 : 0);
            Checks.due("look(3) at first", x.look(3), 0);
            x.tour(0);
            Checks.due("look(3)", x.look(3), 3);
            Checks.due("look(6)", x.look(6), 2);
        }
    }

    private static void lookTellsOddVertices() {
        Checks.sentence("4 odd vertices, 5 the least of these (-1 without one)");
        int[] edges = {3, 1, 1, 3, 2, 1, 3, 3, 1, 1, 4, 1};
        TourHouse x = Checks.graph(false, 6, edges);
        Checks.due("look(4)", x.look(4), 2);
        Checks.due("look(5)", x.look(5), 2);
        TourHouse y = Checks.graph(true, 6, edges);
        Checks.due("directed look(4)", y.look(4), 3);
        Checks.due("directed look(5)", y.look(5), 2);
        Checks.due("look(4) without one", triangle(true).look(4), 0);
        Checks.due("look(5) without one", triangle(true).look(5), -1);
    }

    private static void lookTellsSetsAndVertices() {
        Checks.sentence("7 how many sets of edges hang together (edges do that have a vertex in common), "
            + "8 vertices with an edge.");
        for (boolean directed : Bounds.BOTH) {
            TourHouse x = Checks.graph(directed, 9, 0, 1, 1, 2, 1, 1, 4, 5, 1, 7, 7, 1);
            Checks.due("look(7)", x.look(7), 3);
            Checks.due("look(8)", x.look(8), 6);
            x.edge(2, 5, 1);
            Checks.due("look(7), two joined", x.look(7), 2);
            Checks.due("look(8), two joined", x.look(8), 6);
            x.edge(8, 7, 1);
            Checks.due("look(7), one grown", x.look(7), 2);
            Checks.due("look(8), one grown", x.look(8), 7);
        }
    }

    private static void rowIsEmptyAndPathStays() {
        Checks.sentence("(ROW is empty when the graph changes; PATH stays.)");
        dueEmptyRow("edge", x -> x.edge(0, 0, 1));
        dueEmptyRow("drop", TourHouse::drop);
        dueEmptyRow("reset", x -> x.reset(true, 2));
    }

    private static void dueEmptyRow(String change, Consumer<TourHouse> changing) {
        TourHouse x = Bounds.busy(true, 2);
        Checks.due("look(3) before " + change, x.look(3), 5);
        changing.accept(x);
        Checks.due("look(3) behind " + change, x.look(3), 0);
        Checks.dueThrow("row(0) behind " + change, x, Bounds.NONE, () -> x.row(0));
        Checks.due("look(6) behind " + change, x.look(6), 5);
        x.reset(true, 2);
        for (int weight : new int[] {1, 10, 100, 1000}) {
            x.edge(weight == 10 || weight == 100 ? 1 : 0, weight == 10 ? 0 : 1, weight);
        }
        Checks.due("judge(0) of PATH behind " + change, x.judge(0), 1 + 100 + 10 + 1000 + 10);
    }

    private static void lookRefuses() {
        Checks.sentence("Throws IllegalArgumentException for another what.");
        TourHouse x = Bounds.busy(true, 2);
        for (int what : new int[] {-1, 9, 10, 100}) {
            Checks.dueThrow("look(" + what + ")", x, Bounds.ARGUMENT, () -> x.look(what));
        }
    }

    private static void nothingElseChanges() {
        Checks.sentence("Nothing is promised beyond the answers and state changes described above");
        for (boolean directed : Bounds.BOTH) {
            Supplier<TourHouse> busy = () -> Bounds.busy(directed, 4);
            Bounds.stays("row", busy, x -> x.row(4));
            Bounds.stays("extra", busy, x -> x.extra(3));
            for (int what = 0; what <= 8; what++) {
                int each = what;
                Bounds.stays("look(" + what + ")", busy, x -> x.look(each));
            }
            Bounds.stays("the same round once more", busy, x -> x.round(0));
            Bounds.stays("a round from elsewhere and back", busy, x -> {
                x.round(3);
                x.round(0);
            });
            Bounds.stays("a tour and the round again", () -> even(directed), x -> {
                Checks.due("tour(1)", x.tour(1), 3);
                x.round(0);
            });
            TourHouse x = even(directed);
            x.tour(1);
            Checks.due("extras behind a tour", Checks.extrasOf(x), "0 0 0");
            Checks.due("judge(0) behind a tour", x.judge(0), 111);
            TourHouse y = even(directed);
            String before = Checks.rowOf(y) + "; " + Checks.extrasOf(y);
            y.step(1);
            Checks.due("row and extras behind a step", Checks.rowOf(y) + "; " + Checks.extrasOf(y), before);
            y.judge(0);
            Checks.due("row and extras behind judge", Checks.rowOf(y) + "; " + Checks.extrasOf(y), before);
            Bounds.dueLooks("behind judge", y, 4, 3, directed ? 1 : 0, 3, 0, -1, 0, 1, 3);
        }
    }

    private static TourHouse even(boolean directed) {
        TourHouse x = triangle(directed);
        x.round(0);
        Bounds.addSteps(x, 0, 2, 4);
        return x;
    }
}

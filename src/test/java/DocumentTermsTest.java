import java.util.function.Supplier;

/**
 * The document from its first line: "What it is" and "Terms", one method for each sentence, with
 * ordinary inputs. "All memory is the class's own, made once" is held by RoomTest.
 */
public final class DocumentTermsTest {
    public static void main(String[] args) {
        calls();
        vertices();
        edges();
        edgesFromVertexToVertex();
        weights();
        stepsAlong();
        stepsAgainst();
        walks();
        closedWalks();
        costs();
        covering();
        oddNotDirected();
        oddDirected();
        lessRows();
        tours();
        roundsOfTheLeastCost();
        roundsWithTheFewestStepsOfTheFirstEdge();
        roundsWithTheFewestStepsOfFurtherEdges();
        roundsOfTheLeastRow();
        extras();
        severalExceptions();
        callsThatThrow();
        Checks.finish();
    }

    private static void calls() {
        Checks.sentence("An object is used for at most 512 calls after it has been made");
        TourHouse x = Checks.graph(false, 3, 0, 1, 1, 1, 2, 1, 2, 0, 1);
        for (int call = 5; call <= 510; call += 2) {
            Checks.due("tour in call " + call, x.tour(call % 3), 3);
            Checks.due("round in call " + (call + 1), x.round(call % 3), 3);
        }
        Checks.due("row in call 511", x.row(0), 3);
        Checks.due("drop in call 512", x.drop(), 2);
    }

    private static void vertices() {
        Checks.sentence("A GRAPH has VERTICES 0 .. n - 1 (n 1 .. 16)");
        for (int n = 1; n <= 16; n++) {
            TourHouse x = Checks.graph(true, n, 0, n - 1, 6, n - 1, 0, 7);
            Checks.due("look(0)", x.look(0), n);
            Checks.due("distance(n - 1, 0) of " + n, x.distance(n - 1, 0), n == 1 ? 0 : 7);
            int behind = n;
            Checks.dueThrow("distance(n, 0) of " + n, x, Bounds.ARGUMENT, () -> x.distance(behind, 0));
        }
    }

    private static void edges() {
        Checks.sentence("EDGES 0 .. m - 1 (m 40 at most)");
        TourHouse x = Checks.graph(false, 2);
        for (int e = 0; e < 40; e++) {
            Checks.due("edge " + e, x.edge(0, 1, e), e);
        }
        Checks.dueThrow("one edge more", x, Bounds.STATE, () -> x.edge(0, 1, 1));
        Checks.due("round(0)", x.round(0), 780);
        Checks.due("extra(39)", x.extra(39), 0);
        Checks.dueThrow("extra(40)", x, Bounds.NONE, () -> x.extra(40));
        Checks.dueThrow("extra(-1)", x, Bounds.NONE, () -> x.extra(-1));
    }

    private static void edgesFromVertexToVertex() {
        Checks.sentence("edge e goes from a vertex to a vertex (maybe the same one)");
        TourHouse x = Checks.graph(true, 3, 0, 1, 7, 2, 2, 4);
        Checks.due("distance(0, 1)", x.distance(0, 1), 7);
        Checks.due("distance(1, 0)", x.distance(1, 0), -1);
        Checks.due("distance(0, 2)", x.distance(0, 2), -1);
        Checks.due("look(8)", x.look(8), 3);
        TourHouse loop = Checks.graph(true, 3, 2, 2, 4);
        Checks.due("judge(2) of a loop", Checks.judged(loop, 2, 0), 4);
    }

    private static void weights() {
        Checks.sentence("and has a weight, 0 .. 1000000000");
        TourHouse x = Checks.graph(true, 2, 0, 1, 0, 1, 0, 1000000000);
        Checks.due("distance(0, 1)", x.distance(0, 1), 0);
        Checks.due("distance(1, 0)", x.distance(1, 0), 1000000000);
        Checks.due("round(0)", x.round(0), 1000000000);
        Checks.dueThrow("edge(0, 1, -1)", x, Bounds.ARGUMENT, () -> x.edge(0, 1, -1));
        Checks.dueThrow("edge(0, 1, 1000000001)", x, Bounds.ARGUMENT, () -> x.edge(0, 1, 1000000001));
    }

    private static void stepsAlong() {
        Checks.sentence("A STEP: 2 * e goes along edge e from its first vertex to its second one");
        for (boolean directed : Bounds.BOTH) {
            TourHouse x = Checks.graph(directed, 3, 1, 0, 1, 2, 1, 1, 0, 2, 1);
            Checks.due("judge(1) of 0 4 2", Checks.judged(x, 1, 0, 4, 2), 3);
            Checks.due("judge(0) of 0", Checks.judged(x, 0, 0), -1);
            Checks.due("judge(1) of 2", Checks.judged(x, 1, 2), -1);
        }
    }

    private static void stepsAgainst() {
        Checks.sentence("2 * e + 1, in graphs that are not directed, when the edge's two vertices differ, "
            + "from the second one to the first one");
        int[] edges = {1, 0, 1, 2, 1, 1, 0, 2, 1, 0, 0, 1};
        TourHouse x = Checks.graph(false, 3, edges);
        Checks.due("judge(0) of 1 3 5 6", Checks.judged(x, 0, 1, 3, 5, 6), 4);
        Checks.due("judge(1) of 1", Checks.judged(x, 1, 1), -1);
        Checks.due("judge(0) of 7, a loop's", Checks.judged(x, 0, 7), -1);
        TourHouse y = Checks.graph(true, 3, edges);
        Checks.due("directed judge(0) of 1", Checks.judged(y, 0, 1), -1);
        Checks.due("directed judge(1) of 1", Checks.judged(y, 1, 1), -1);
    }

    private static void walks() {
        Checks.sentence("A WALK from a vertex: a row of steps, the first one from that vertex, "
            + "each further one from where the one before went.");
        TourHouse x = Checks.graph(true, 4, 0, 1, 1, 1, 2, 1, 2, 3, 1);
        Checks.due("judge(0) of 0 2 4", Checks.judged(x, 0, 0, 2, 4), -2);
        Checks.due("judge(1) of 0 2 4", Checks.judged(x, 1, 0, 2, 4), -1);
        Checks.due("judge(0) of 0 4", Checks.judged(x, 0, 0, 4), -1);
        Checks.due("judge(0) of 0 2 2", Checks.judged(x, 0, 0, 2, 2), -1);
    }

    private static void closedWalks() {
        Checks.sentence("It is CLOSED if it ends where it began (the empty one, too).");
        TourHouse x = Checks.graph(true, 2, 0, 1, 3, 1, 0, 4);
        Checks.due("judge(0) of 0 2", Checks.judged(x, 0, 0, 2), 7);
        Checks.due("judge(1) of 2 0", Checks.judged(x, 1, 2, 0), 7);
        Checks.due("judge(0) of 0 2 0", Checks.judged(x, 0, 0, 2, 0), -2);
        Checks.due("judge(1) of nothing", x.judge(1), -3);
        Checks.due("judge(1) of nothing, without edges", Checks.graph(true, 2).judge(1), 0);
    }

    private static void costs() {
        Checks.sentence("Its COST: the weights of all its steps' edges together.");
        TourHouse x = Checks.graph(false, 3, 0, 1, 1, 1, 2, 20, 2, 0, 300, 1, 1, 4000);
        Checks.due("judge(0) of each edge once", Checks.judged(x, 0, 0, 6, 2, 4), 4321);
        Checks.due("judge(0), edge 3 twice", Checks.judged(x, 0, 0, 6, 6, 2, 4), 8321);
        Checks.due("judge(0), edge 0 three times", Checks.judged(x, 0, 0, 1, 0, 6, 2, 4), 4323);
        TourHouse heavy = Checks.graph(true, 1, 0, 0, 1000000000);
        Checks.due("judge(0) of three heavy steps", Checks.judged(heavy, 0, 0, 0, 0), 3000000000L);
    }

    private static void covering() {
        Checks.sentence("It COVERS if each edge has a step at least.");
        TourHouse x = Checks.graph(false, 3, 0, 1, 1, 1, 2, 20, 2, 0, 300, 0, 1, 4000);
        Checks.due("judge(0) without edge 3", Checks.judged(x, 0, 0, 2, 4), -3);
        Checks.due("judge(0) without edge 0", Checks.judged(x, 0, 6, 2, 4), -3);
        Checks.due("judge(0) without edges 1 and 2", Checks.judged(x, 0, 0, 7), -3);
        Checks.due("judge(0) of them all", Checks.judged(x, 0, 0, 7, 0, 2, 4), 4322);
    }

    private static void dueOdd(TourHouse x, int howMany, int least) {
        Checks.due("look(4)", x.look(4), howMany);
        Checks.due("look(5)", x.look(5), least);
        Checks.due("tour(0) is -2", x.tour(0) == -2, howMany != 0);
    }

    private static void oddNotDirected() {
        Checks.sentence("ODD: not directed, an odd number of ends of edges lie at it (an edge from it to itself has two)");
        dueOdd(Checks.graph(false, 4, 1, 2, 1), 2, 1);
        dueOdd(Checks.graph(false, 4, 1, 2, 1, 1, 2, 1), 0, -1);
        dueOdd(Checks.graph(false, 4, 1, 2, 1, 1, 2, 1, 2, 1, 1), 2, 1);
        dueOdd(Checks.graph(false, 4, 2, 2, 1), 0, -1);
        dueOdd(Checks.graph(false, 4, 2, 2, 1, 2, 3, 1), 2, 2);
        dueOdd(Checks.graph(false, 4, 0, 1, 1, 0, 2, 1, 0, 3, 1), 4, 0);
    }

    private static void oddDirected() {
        Checks.sentence("directed, not as many edges come to it as go from it");
        dueOdd(Checks.graph(true, 4, 1, 2, 1), 2, 1);
        dueOdd(Checks.graph(true, 4, 1, 2, 1, 1, 2, 1), 2, 1);
        dueOdd(Checks.graph(true, 4, 1, 2, 1, 2, 1, 1), 0, -1);
        dueOdd(Checks.graph(true, 4, 2, 2, 1), 0, -1);
        dueOdd(Checks.graph(true, 4, 0, 1, 1, 1, 2, 1, 2, 3, 1), 2, 0);
        dueOdd(Checks.graph(true, 4, 3, 2, 1, 2, 1, 1, 2, 1, 1), 3, 1);
    }

    private static void lessRows() {
        Checks.sentence("Of two rows the LESS one has the lesser number at the first place where they differ.");
        // Of "0 3 5 6" and "0 3 7 4" the second has the lesser last step, but the greater one before.
        TourHouse x = Checks.graph(false, 2, 0, 1, 1, 0, 1, 1, 1, 0, 1, 1, 0, 1);
        x.tour(0);
        Checks.due("row of tour(0)", Checks.rowOf(x), "0 3 5 6");
        x.round(0);
        Checks.due("row of round(0)", Checks.rowOf(x), "0 3 5 6");
    }

    private static void tours() {
        Checks.sentence("A TOUR from a vertex: a closed walk with just one step for each edge.");
        for (boolean directed : Bounds.BOTH) {
            TourHouse x = Checks.graph(directed, 4, 3, 1, 9, 1, 2, 9, 2, 3, 9, 1, 1, 9, 2, 2, 0);
            Checks.due("tour(2)", x.tour(2), 5);
            Checks.due("row of tour(2)", Checks.rowOf(x), directed ? "4 0 6 2 8" : "3 6 1 5 8");
            Checks.due("tour(0), where it can't begin", x.tour(0), -1);
        }
    }

    private static void roundsOfTheLeastCost() {
        Checks.sentence("A ROUND from a vertex: a closed walk that covers, of the least cost");
        // Edges 0 and 1 together cost less than the edge beside them, so they are used once more, though they come first.
        Bounds.dueRound("not directed", Checks.graph(false, 3, 0, 2, 2, 2, 1, 2, 0, 1, 5, 0, 1, 9),
            0, 22, "1 1 0 0", "0 1 4 3 2 7");
        Bounds.dueRound("directed", Checks.graph(true, 3, 1, 2, 2, 2, 0, 2, 1, 0, 5, 0, 1, 1, 0, 1, 1, 0, 1, 1),
            0, 16, "1 1 0 0 0 0", "6 0 2 8 0 2 10 4");
        // One way more is needed from 0 and from 1, to 2 and to 3: what is nearest to 0 is needed for 1.
        TourHouse crossed = Checks.graph(true, 4, 0, 2, 1, 0, 3, 2, 1, 2, 1, 1, 3, 100,
            2, 0, 50, 2, 0, 50, 2, 1, 50, 3, 0, 50, 3, 1, 50, 3, 1, 50);
        Checks.due("round(0) crossed", crossed.round(0), 407);
        Checks.due("extras crossed", Checks.extrasOf(crossed), "0 1 1 0 0 0 0 0 0 0");
    }

    private static void roundsWithTheFewestStepsOfTheFirstEdge() {
        Checks.sentence("of these one with the fewest steps of edge 0");
        // Edge 0 costs as much as edges 1 and 2 together: a step of it is spared by two more of theirs.
        Bounds.dueRound("not directed", Checks.graph(false, 3, 0, 1, 4, 0, 2, 2, 2, 1, 2, 0, 1, 9),
            0, 21, "0 1 1 0", "0 5 3 2 4 7");
        Bounds.dueRound("directed", Checks.graph(true, 3, 1, 0, 4, 1, 2, 2, 2, 0, 2, 0, 1, 0, 0, 1, 0, 0, 1, 0),
            0, 12, "0 1 1 0 0 0", "6 0 8 2 4 10 2 4");
    }

    private static void roundsWithTheFewestStepsOfFurtherEdges() {
        Checks.sentence("of these with the fewest of edge 1; and so on");
        Bounds.dueRound("edge 0 dearer, edges 1 and 2 alike", Checks.graph(false, 2, 0, 1, 5, 0, 1, 4, 0, 1, 4),
            0, 17, "0 0 1", "0 3 4 5");
        Bounds.dueRound("edge 3 spared for edges 4 and 5", Checks.graph(false, 3, 0, 1, 9, 0, 1, 9, 0, 1, 9,
            0, 1, 2, 0, 2, 1, 2, 1, 1), 0, 33, "0 0 0 0 1 1", "0 3 4 7 8 10 11 9");
        Bounds.dueRound("directed, edges 1 and 2 alike", Checks.graph(true, 2, 0, 1, 0, 1, 0, 3, 1, 0, 3, 0, 1, 0, 0, 1, 0),
            0, 9, "0 0 1 0 0", "0 2 6 4 8 4");
    }

    private static void roundsOfTheLeastRow() {
        Checks.sentence("of these the least row");
        TourHouse x = Checks.graph(false, 3, 0, 1, 1, 1, 2, 1);
        Bounds.dueRound("from 0", x, 0, 4, "1 1", "0 2 3 1");
        Bounds.dueRound("from 1", x, 1, 4, "1 1", "1 0 2 3");
        Bounds.dueRound("from 2", x, 2, 4, "1 1", "3 1 0 2");
        Bounds.dueRound("directed, from 1", Checks.graph(true, 3, 0, 1, 1, 1, 0, 1, 1, 2, 1, 2, 1, 1),
            1, 4, "0 0 0 0", "2 0 4 6");
    }

    private static void extras() {
        Checks.sentence("EXTRA of an edge: its steps in the round, less 1.");
        TourHouse x = Checks.graph(true, 3, 0, 1, 1, 0, 1, 1, 0, 1, 1, 1, 2, 1, 2, 0, 1);
        x.round(0);
        Checks.due("row", Checks.rowOf(x), "0 6 8 2 6 8 4 6 8");
        Checks.due("extras", Checks.extrasOf(x), "0 0 0 2 2");
    }

    private static void severalExceptions() {
        Checks.sentence("Of several exceptions that hold the one listed first is thrown");
        TourHouse full = Bounds.full(false);
        Checks.dueThrow("edge(0, 16, 1) with 40", full, Bounds.ARGUMENT, () -> full.edge(0, 16, 1));
        Checks.dueThrow("edge(0, 1, -1) with 40", full, Bounds.ARGUMENT, () -> full.edge(0, 1, -1));
        TourHouse noRound = Checks.graph(false, 2, 0, 1, 1);
        Checks.dueThrow("extra(1) of one edge, no round", noRound, Bounds.NONE, () -> noRound.extra(1));
    }

    private static void callsThatThrow() {
        Checks.sentence("a call that throws changes nothing");
        for (boolean directed : Bounds.BOTH) {
            Supplier<TourHouse> full = () -> Bounds.full(directed);
            Supplier<TourHouse> busy = () -> Bounds.busy(directed, 3);
            Supplier<TourHouse> noEdge = () -> {
                TourHouse x = Checks.graph(directed, 3);
                x.step(0);
                return x;
            };
            Supplier<TourHouse> noRound = () -> {
                TourHouse x = Checks.graph(directed, 3, 0, 1, 1, 1, 0, 1);
                x.tour(0);
                x.step(0);
                return x;
            };
            Bounds.refused("reset(true, 0)", busy, Bounds.ARGUMENT, x -> x.reset(true, 0));
            Bounds.refused("reset(false, 17)", busy, Bounds.ARGUMENT, x -> x.reset(false, 17));
            Bounds.refused("edge(3, 0, 1)", busy, Bounds.ARGUMENT, x -> x.edge(3, 0, 1));
            Bounds.refused("edge(0, -1, 1)", busy, Bounds.ARGUMENT, x -> x.edge(0, -1, 1));
            Bounds.refused("edge(0, 1, -1)", busy, Bounds.ARGUMENT, x -> x.edge(0, 1, -1));
            Bounds.refused("edge(0, 1, 1) with 40", full, Bounds.STATE, x -> x.edge(0, 1, 1));
            Bounds.refused("drop()", noEdge, Bounds.STATE, TourHouse::drop);
            Bounds.refused("distance(0, 3)", busy, Bounds.ARGUMENT, x -> x.distance(0, 3));
            Bounds.refused("distance(-1, 0)", busy, Bounds.ARGUMENT, x -> x.distance(-1, 0));
            Bounds.refused("tour(3)", busy, Bounds.ARGUMENT, x -> x.tour(3));
            Bounds.refused("round(3)", busy, Bounds.ARGUMENT, x -> x.round(3));
            Bounds.refused("extra(4)", busy, Bounds.NONE, x -> x.extra(4));
            Bounds.refused("extra(0), no round", noRound, Bounds.STATE, x -> x.extra(0));
            Bounds.refused("row(5)", busy, Bounds.NONE, x -> x.row(5));
            Bounds.refused("judge(3)", busy, Bounds.ARGUMENT, x -> x.judge(3));
            Bounds.refused("look(9)", busy, Bounds.ARGUMENT, x -> x.look(9));
            Bounds.refused("step(0) behind 1000", () -> withPathOf1000(directed), Bounds.STATE, x -> x.step(0));
        }
    }

    private static TourHouse withPathOf1000(boolean directed) {
        TourHouse x = Bounds.busy(directed, 3);
        for (int k = 5; k < 1000; k++) {
            x.step(0);
        }
        return x;
    }
}

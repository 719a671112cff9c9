import java.util.function.Supplier;

/** The boundary cases that the document names under "Terms". Each method quotes its sentence. */
public final class TermsBoundsTest {
    public static void main(String[] args) {
        for (boolean directed : Bounds.BOTH) {
            for (int n = 1; n <= 16; n++) {
                verticesFromZeroToLast(directed, n);
            }
            edgesFromZeroToLast(directed);
            edgesThatStayAtAVertex(directed);
            weightsFromZero(directed);
            stepsAlong(directed);
            walksFromStepToStep(directed);
            theEmptyWalk(directed);
            costsOfAllSteps(directed);
            coveringEachEdge(directed);
            theFirstDifferenceDecides(directed);
            toursWithJustOneStepForEachEdge(directed);
            thePairOfLastEdges(directed);
            theFirstExceptionListed(directed);
        }
        stepsAgainst();
        oddByEnds();
        oddByComingAndGoing();
        roundsByCostThenEdgesThenRow();
        directedRoundsByCostThenEdgesThenRow();
        extraIsStepsLessOne();
        Checks.finish();
    }

    /** "VERTICES 0 .. n - 1 (n 1 .. 16)". */
    private static void verticesFromZeroToLast(boolean directed, int n) {
        TourHouse x = Bounds.busy(directed, n);
        String of = " with " + n + " vertices";
        Checks.due("look(0)", x.look(0), n);
        Checks.due("judge(0)" + of, x.judge(0), 1000000019);
        Checks.due("judge(n - 1)" + of, Checks.judged(x, n - 1, 4, 2, 0, 2, 6), 1000000019);
        for (int v : new int[] {0, n - 1}) {
            Checks.due("distance(" + v + ", " + v + ")" + of, x.distance(v, v), 0);
            Checks.due("round(" + v + ")" + of, x.round(v), directed && n > 1 ? 1000000019 : 1000000012);
            Checks.due("tour(" + v + ")" + of, x.tour(v), n == 1 ? 4 : -2);
            Checks.due("edge(" + v + ", " + v + ", 1)" + of, x.edge(v, v, 1), 4);
            Checks.due("drop()" + of, x.drop(), 4);
        }
        Supplier<TourHouse> made = () -> Bounds.busy(directed, n);
        for (int v : Bounds.outside(0, n - 1)) {
            Bounds.refused("distance(" + v + ", 0)" + of, made, Bounds.ARGUMENT, y -> y.distance(v, 0));
            Bounds.refused("distance(0, " + v + ")" + of, made, Bounds.ARGUMENT, y -> y.distance(0, v));
            Bounds.refused("edge(" + v + ", 0, 1)" + of, made, Bounds.ARGUMENT, y -> y.edge(v, 0, 1));
            Bounds.refused("edge(0, " + v + ", 1)" + of, made, Bounds.ARGUMENT, y -> y.edge(0, v, 1));
            Bounds.refused("tour(" + v + ")" + of, made, Bounds.ARGUMENT, y -> y.tour(v));
            Bounds.refused("round(" + v + ")" + of, made, Bounds.ARGUMENT, y -> y.round(v));
            Bounds.refused("judge(" + v + ")" + of, made, Bounds.ARGUMENT, y -> y.judge(v));
        }
    }

    /** "EDGES 0 .. m - 1 (m 40 at most)". */
    private static void edgesFromZeroToLast(boolean directed) {
        TourHouse x = Checks.graph(directed, 1);
        for (int m = 1; m <= 40; m++) {
            Checks.due("edge " + m, x.edge(0, 0, m), m - 1);
            Checks.due("look(1)", x.look(1), m);
            Checks.due("the last edge's step", Checks.judged(x, 0, 2 * (m - 1)), m == 1 ? 1 : -3);
            Checks.due("the step of an edge behind the last", Checks.judged(x, 0, 2 * m), -1);
        }
        Checks.due("step -2", Checks.judged(x, 0, -2), -1);
        Bounds.refused("edge 40", () -> Bounds.full(directed), Bounds.STATE, y -> y.edge(15, 15, 1));
    }

    /** "edge e goes from a vertex to a vertex (maybe the same one)". */
    private static void edgesThatStayAtAVertex(boolean directed) {
        TourHouse x = Checks.graph(directed, 16);
        Checks.due("edge(0, 0, 3)", x.edge(0, 0, 3), 0);
        Bounds.dueRound("of a loop at 0", x, 0, 3, "0", "0");
        Checks.due("edge(15, 15, 4)", x.edge(15, 15, 4), 1);
        Checks.due("edge(0, 15, 4)", x.edge(0, 15, 4), 2);
        Checks.due("edge(15, 0, 4)", x.edge(15, 0, 4), 3);
        Bounds.dueRound("of two loops", x, 0, 15, "0 0 0 0", "0 4 2 6");
        Checks.due("distance(0, 15)", x.distance(0, 15), 4);
        Checks.due("two edges between the same vertices", x.edge(0, 15, 4), 4);
    }

    /** "a weight, 0 .. 1000000000". */
    private static void weightsFromZero(boolean directed) {
        for (int weight : new int[] {0, 1, 999999999, 1000000000}) {
            TourHouse x = Checks.graph(directed, 2);
            Checks.due("edge(0, 1, " + weight + ")", x.edge(0, 1, weight), 0);
            Checks.due("edge(1, 0, " + weight + ")", x.edge(1, 0, weight), 1);
            Checks.due("distance(0, 1)", x.distance(0, 1), weight);
            Checks.due("distance(1, 0)", x.distance(1, 0), weight);
            Checks.due("round(0)", x.round(0), 2L * weight);
            Checks.due("judge(0)", Checks.judged(x, 0, 0, 2), 2L * weight);
        }
        for (int weight : Bounds.outside(0, 1000000000)) {
            Bounds.refused("edge(0, 0, " + weight + ")", () -> Bounds.busy(directed, 3), Bounds.ARGUMENT,
                y -> y.edge(0, 0, weight));
        }
    }

    /** "2 * e goes along edge e from its first vertex to its second one". */
    private static void stepsAlong(boolean directed) {
        TourHouse x = Checks.graph(directed, 3, 0, 1, 1, 2, 1, 1, 1, 1, 1);
        Checks.due("step 0 from 0", Checks.judged(x, 0, 0), -2);
        Checks.due("step 0 from 1", Checks.judged(x, 1, 0), -1);
        Checks.due("step 2 from 2", Checks.judged(x, 2, 2), -2);
        Checks.due("step 2 from 1", Checks.judged(x, 1, 2), -1);
        Checks.due("step 4 from 1", Checks.judged(x, 1, 4), -3);
        Checks.due("step 4 from 0", Checks.judged(x, 0, 4), -1);
        Checks.due("step 0 leads to 1", Checks.judged(x, 0, 0, 4), -2);
        Checks.due("step 0 does not lead to 2", Checks.judged(x, 0, 0, 2), -1);
    }

    /** "2 * e + 1, in graphs that are not directed, when the edge's two vertices differ". */
    private static void stepsAgainst() {
        int[] edges = {0, 1, 1, 1, 1, 1};
        TourHouse x = Checks.graph(false, 2, edges);
        Checks.due("step 1 from 1", Checks.judged(x, 1, 1), -2);
        Checks.due("step 1 from 0", Checks.judged(x, 0, 1), -1);
        Checks.due("step 1 leads to 0", Checks.judged(x, 1, 1, 0), -3);
        Checks.due("step 3, a loop", Checks.judged(x, 1, 3), -1);
        Checks.due("0 2 1", Checks.judged(x, 0, 0, 2, 1), 3);
        Checks.due("0 3 1, a loop against", Checks.judged(x, 0, 0, 3, 1), -1);
        TourHouse y = Checks.graph(true, 2, edges);
        Checks.due("step 1 from 1, directed", Checks.judged(y, 1, 1), -1);
        Checks.due("step 1 from 0, directed", Checks.judged(y, 0, 1), -1);
        Checks.due("step 3, a directed loop", Checks.judged(y, 1, 3), -1);
        TourHouse last = Bounds.full(false);
        last.judge(0);
        Checks.due("step 79, against edge 39", Checks.judged(last, 8, 79), -2);
        Checks.due("step 81, against no edge", Checks.judged(last, 9, 81), -1);
    }

    /** "the first one from that vertex, each further one from where the one before went". */
    private static void walksFromStepToStep(boolean directed) {
        TourHouse x = Checks.graph(directed, 4, 0, 1, 1, 1, 2, 1, 2, 0, 1, 3, 3, 1);
        Checks.due("a wrong first step", Checks.judged(x, 0, 2, 4, 0), -1);
        Checks.due("a wrong second step", Checks.judged(x, 0, 0, 4, 2), -1);
        Checks.due("a wrong last step", Checks.judged(x, 0, 0, 2, 6), -1);
        Checks.due("only a wrong step", Checks.judged(x, 0, 6), -1);
        Checks.due("each step from where the one before went", Checks.judged(x, 0, 0, 2, 4), -3);
    }

    /** "It is CLOSED if it ends where it began (the empty one, too)." */
    private static void theEmptyWalk(boolean directed) {
        TourHouse x = Checks.graph(directed, 16);
        for (int v = 0; v < 16; v++) {
            Checks.due("judge(" + v + ") of the empty walk", x.judge(v), 0);
            Checks.due("distance(" + v + ", " + v + ") by the empty walk", x.distance(v, v), 0);
        }
        x.edge(0, 1, 1);
        x.edge(1, 0, 1);
        for (int v = 0; v < 3; v++) {
            Checks.due("judge(" + v + ") of the empty walk, closed but not covering", x.judge(v), -3);
        }
        Checks.due("back where it began", Checks.judged(x, 0, 0, 2), 2);
        Checks.due("one step on", Checks.judged(x, 0, 0, 2, 0), -2);
    }

    /** "Its COST: the weights of all its steps' edges together." 509 steps are the most in 512 calls. */
    private static void costsOfAllSteps(boolean directed) {
        TourHouse x = new TourHouse();
        x.reset(directed, 1);
        x.edge(0, 0, 1000000000);
        for (int k = 1; k <= 509; k++) {
            Checks.due("step " + k, x.step(0), k);
        }
        Checks.due("judge(0) of 509 steps", x.judge(0), 509000000000L);
        TourHouse y = Checks.graph(directed, 2, 0, 1, 0, 1, 0, 0, 0, 0, 3);
        Checks.due("edges of weight 0", Checks.judged(y, 0, 0, 2, 0, 2, 4), 3);
        Checks.due("the same edge again", Checks.judged(y, 0, 4, 4, 0, 2), 6);
    }

    /** "It COVERS if each edge has a step at least." */
    private static void coveringEachEdge(boolean directed) {
        TourHouse x = Checks.graph(directed, 1);
        for (int e = 0; e < 40; e++) {
            x.edge(0, 0, 1);
        }
        for (int missing : new int[] {0, 20, 39, 40}) {
            for (int e = 0; e < 40; e++) {
                if (e != missing) {
                    x.step(2 * e);
                }
            }
            Checks.due("judge(0) without edge " + missing, x.judge(0), missing == 40 ? 40 : -3);
        }
        Checks.due("one edge twice, none of the others", Checks.judged(x, 0, 0, 0), -3);
    }

    /** "not directed, an odd number of ends of edges lie at it (an edge from it to itself has two)". */
    private static void oddByEnds() {
        TourHouse x = Checks.graph(false, 3);
        dueOdd("without edges", x, 0, -1);
        x.edge(2, 2, 1);
        dueOdd("a loop", x, 0, -1);
        x.edge(1, 2, 1);
        dueOdd("a loop and one end, and one end", x, 2, 1);
        x.edge(1, 2, 1);
        dueOdd("two ends that come from the same side", x, 0, -1);
        x.edge(0, 1, 1);
        dueOdd("three ends", x, 2, 0);
        x.edge(1, 1, 1);
        dueOdd("three ends and a loop", x, 2, 0);
        x.edge(0, 2, 1);
        dueOdd("0 has two ends", x, 2, 1);
        TourHouse all = Checks.graph(false, 16);
        for (int v = 0; v < 8; v++) {
            all.edge(v, 15 - v, 1);
        }
        dueOdd("all", all, 16, 0);
        TourHouse last = Checks.graph(false, 16, 14, 15, 1);
        dueOdd("the last two", last, 2, 14);
    }

    /** "directed, not as many edges come to it as go from it". */
    private static void oddByComingAndGoing() {
        TourHouse x = Checks.graph(true, 3);
        dueOdd("without edges, directed", x, 0, -1);
        x.edge(2, 2, 1);
        dueOdd("a directed loop", x, 0, -1);
        x.edge(1, 2, 1);
        dueOdd("one comes, one goes", x, 2, 1);
        x.edge(1, 2, 1);
        dueOdd("two come, two go", x, 2, 1);
        x.edge(2, 1, 1);
        dueOdd("two come, one goes", x, 2, 1);
        x.edge(2, 1, 1);
        dueOdd("two come and go", x, 0, -1);
        x.edge(2, 0, 1);
        dueOdd("one comes to 0", x, 2, 0);
        TourHouse last = Checks.graph(true, 16, 15, 14, 1, 15, 14, 1);
        dueOdd("the last two, directed", last, 2, 14);
        TourHouse one = Checks.graph(true, 16, 1, 0, 1, 2, 0, 1, 0, 3, 1, 0, 4, 1);
        dueOdd("all but 0", one, 4, 1);
    }

    private static void dueOdd(String when, TourHouse x, int howMany, int least) {
        Checks.due("odd vertices, " + when, x.look(4), howMany);
        Checks.due("the least odd vertex, " + when, x.look(5), least);
    }

    /** "Of two rows the LESS one has the lesser number at the first place where they differ." */
    private static void theFirstDifferenceDecides(boolean directed) {
        TourHouse x = Checks.graph(directed, 2, 0, 1, 1, 0, 1, 1, 1, 0, 1, 1, 0, 1);
        Checks.due("tour(0)", x.tour(0), 4);
        Checks.due("row of tour(0)", Checks.rowOf(x), directed ? "0 4 2 6" : "0 3 5 6");
        Checks.due("tour(1)", x.tour(1), 4);
        Checks.due("row of tour(1)", Checks.rowOf(x), directed ? "4 0 6 2" : "1 2 4 7");
        // A lesser step comes too early at vertex 0: nothing would lead back to the loop there.
        TourHouse y = Checks.graph(directed, 3, 0, 1, 1, 1, 2, 1, 2, 0, 1, 1, 1, 1, 0, 0, 1);
        Checks.due("tour(1) that may not begin anyhow", y.tour(1), 5);
        Checks.due("its row", Checks.rowOf(y), directed ? "2 4 8 0 6" : "1 8 5 3 6");
    }

    /** "A TOUR from a vertex: a closed walk with just one step for each edge." */
    private static void toursWithJustOneStepForEachEdge(boolean directed) {
        TourHouse none = Checks.graph(directed, 16);
        Checks.due("tour(0) of no edge", none.tour(0), 0);
        Checks.due("tour(15) of no edge", none.tour(15), 0);
        TourHouse one = Checks.graph(directed, 16, 15, 15, 1);
        Checks.due("tour(15) of one edge", one.tour(15), 1);
        Checks.due("its row", Checks.rowOf(one), "0");
        TourHouse most = Checks.graph(directed, 8);
        for (int e = 0; e < 40; e++) {
            most.edge(e % 8, (e + 1) % 8, 1);
        }
        Checks.due("tour(7) of 40 edges", most.tour(7), 40);
        boolean[] used = new boolean[40];
        for (int k = 0; k < 40; k++) {
            int e = most.row(k) / 2;
            Checks.due("edge " + e + " comes again", used[e], false);
            used[e] = true;
        }
    }

    /** "of these one with the fewest steps of edge 0; of these with the fewest of edge 1; and so on". */
    private static void thePairOfLastEdges(boolean directed) {
        // 38 edges go, the last two come back: of these edge 38 is spared. Not directed, one is enough.
        TourHouse x = Checks.graph(directed, 2);
        for (int e = 0; e < 37; e++) {
            x.edge(0, 1, 0);
        }
        x.edge(0, 1, 9);
        x.edge(1, 0, 0);
        x.edge(1, 0, 0);
        Checks.due("round(0)", x.round(0), 9);
        Checks.due("extra(38)", x.extra(38), 0);
        Checks.due("extra(39)", x.extra(39), directed ? 36 : 0);
        x.drop();
        Checks.due("round(0) of 39 edges", x.round(0), 9);
        Checks.due("extra(38)", x.extra(38), directed ? 37 : 1);
        for (int e = 0; e < 38; e++) {
            Checks.due("extra(" + e + ")", x.extra(e), 0);
        }
    }

    /** "of the least cost; of these one with the fewest steps of edge 0; ... of these the least row". */
    private static void roundsByCostThenEdgesThenRow() {
        Bounds.dueRound("where edge 0 costs least", Checks.graph(false, 2, 0, 1, 1, 0, 1, 2, 0, 1, 2),
            0, 6, "1 0 0", "0 1 2 5");
        Bounds.dueRound("where edge 1 costs least", Checks.graph(false, 2, 0, 1, 2, 0, 1, 1, 0, 1, 2),
            0, 6, "0 1 0", "0 3 2 5");
        Bounds.dueRound("where edges 0 and 1 cost least", Checks.graph(false, 2, 0, 1, 1, 0, 1, 1, 0, 1, 2),
            0, 5, "0 1 0", "0 3 2 5");
        Bounds.dueRound("where all cost the same", Checks.graph(false, 2, 0, 1, 1, 0, 1, 1, 0, 1, 1),
            0, 4, "0 0 1", "0 3 4 5");
        Bounds.dueRound("where edge 0 is spared by two edges", Checks.graph(false, 3, 0, 1, 2, 0, 2, 1, 2, 1, 1, 0, 1, 9),
            0, 15, "0 1 1 0", "0 5 3 2 4 7");
        Bounds.dueRound("where these cost 1 more", Checks.graph(false, 3, 0, 1, 2, 0, 2, 1, 2, 1, 2, 0, 1, 9),
            0, 16, "1 0 0 0", "0 1 2 4 7");
    }

    /** The same sentence in a directed graph, where an edge may have many steps more than one. */
    private static void directedRoundsByCostThenEdgesThenRow() {
        Bounds.dueRound("where edge 0 costs least", Checks.graph(true, 2, 1, 0, 1, 1, 0, 2, 0, 1, 0, 0, 1, 0, 0, 1, 0),
            0, 4, "1 0 0 0 0", "4 0 6 0 8 2");
        Bounds.dueRound("where both cost the same", Checks.graph(true, 2, 1, 0, 2, 1, 0, 2, 0, 1, 0, 0, 1, 0, 0, 1, 0),
            0, 6, "0 1 0 0 0", "4 0 6 2 8 2");
        Bounds.dueRound("where one has two more", Checks.graph(true, 2, 1, 0, 1, 1, 0, 1, 0, 1, 1, 0, 1, 1, 0, 1, 1, 0, 1, 1),
            0, 8, "0 2 0 0 0 0", "4 0 6 2 8 2 10 2");
    }

    /** "EXTRA of an edge: its steps in the round, less 1." */
    private static void extraIsStepsLessOne() {
        for (boolean directed : Bounds.BOTH) {
            for (int n = 1; n <= 16; n++) {
                dueStepsLessOne(Bounds.busy(directed, n));
            }
            dueStepsLessOne(Bounds.full(directed));
        }
    }

    private static void dueStepsLessOne(TourHouse x) {
        int[] steps = new int[x.look(1)];
        for (int k = 0; k < x.look(3); k++) {
            steps[x.row(k) / 2]++;
        }
        for (int e = 0; e < steps.length; e++) {
            Checks.due("extra(" + e + ")", x.extra(e), steps[e] - 1);
        }
    }

    /** "Of several exceptions that hold the one listed first is thrown; a call that throws changes nothing." */
    private static void theFirstExceptionListed(boolean directed) {
        Supplier<TourHouse> full = () -> Bounds.full(directed);
        Bounds.refused("edge(16, 0, 1) with 40 edges", full, Bounds.ARGUMENT, x -> x.edge(16, 0, 1));
        Bounds.refused("edge(0, -1, 1) with 40 edges", full, Bounds.ARGUMENT, x -> x.edge(0, -1, 1));
        Bounds.refused("edge(0, 0, -1) with 40 edges", full, Bounds.ARGUMENT, x -> x.edge(0, 0, -1));
        Bounds.refused("edge(0, 0, 1) with 40 edges", full, Bounds.STATE, x -> x.edge(0, 0, 1));
        Supplier<TourHouse> noRound = () -> Checks.graph(directed, 2, 0, 1, 1);
        Bounds.refused("extra(1) of one edge without a round", noRound, Bounds.NONE, x -> x.extra(1));
        Bounds.refused("extra(-1) without a round", noRound, Bounds.NONE, x -> x.extra(-1));
        Bounds.refused("extra(0) without a round", noRound, Bounds.STATE, x -> x.extra(0));
        Bounds.refused("extra(0) of a new object", TourHouse::new, Bounds.NONE, x -> x.extra(0));
    }
}

import java.util.function.Supplier;

/** The boundary cases of promise 10. Each method quotes its sentence. */
public final class StepBoundsTest {
    public static void main(String[] args) {
        for (boolean directed : Bounds.BOTH) {
            whateverNumber(directed);
            howManyItHas(directed);
            pathStays(directed);
            aThousand(directed);
        }
        Checks.finish();
    }

    /** "A step comes behind PATH (whatever number)". */
    private static void whateverNumber(boolean directed) {
        int[] numbers = {Bounds.MIN, Bounds.MIN + 1, -256, -3, -2, -1, 0, 1, 7, 8, 9, 78, 79, 80, 81, 82,
            256, 65536, 1 << 30, Bounds.MAX - 1, Bounds.MAX};
        TourHouse x = Bounds.busy(directed, 3);
        TourHouse none = new TourHouse();
        for (int k = 0; k < numbers.length; k++) {
            Checks.due("step(" + numbers[k] + ")", x.step(numbers[k]), 6 + k);
            Checks.due("step(" + numbers[k] + ") of a new object", none.step(numbers[k]), 1 + k);
        }
        Checks.due("judge(0) of numbers that are no steps", x.judge(0), -1);
        Checks.due("judge(0) of a new object", none.judge(0), -1);
    }

    /** "how many it has": 1 again behind judge, and the place of the numbers is the order of the calls. */
    private static void howManyItHas(boolean directed) {
        TourHouse x = Checks.graph(directed, 3, 0, 1, 1, 1, 2, 1, 2, 0, 1);
        int[] steps = {0, 2, 4};
        for (int k = 0; k < 3; k++) {
            Checks.due("step(" + steps[k] + ")", x.step(steps[k]), k + 1);
            Checks.due("look(6)", x.look(6), k + 1);
        }
        Checks.due("judge(0) in order", x.judge(0), 3);
        Checks.due("step(4) behind judge", x.step(4), 1);
        Checks.due("step(2)", x.step(2), 2);
        Checks.due("step(0)", x.step(0), 3);
        Checks.due("judge(2) out of order", x.judge(2), -1);
    }

    /** "(ROW is empty when the graph changes; PATH stays.)" */
    private static void pathStays(boolean directed) {
        TourHouse x = Checks.graph(directed, 2, 0, 1, 1);
        x.step(0);
        x.edge(1, 0, 5);
        x.step(2);
        x.edge(1, 1, 7);
        x.drop();
        x.tour(0);
        x.round(0);
        x.distance(0, 1);
        Checks.due("look(6)", x.look(6), 2);
        Checks.due("look(3), the ROW beside PATH", x.look(3), 2);
        Checks.due("reset", x.reset(!directed, 2), 2);
        x.edge(0, 1, 100);
        x.edge(1, 0, 200);
        Checks.due("step(0)", x.step(0), 3);
        Checks.due("step(2)", x.step(2), 4);
        Checks.due("judge(0) in the new graph", x.judge(0), 600);
    }

    /** "Throws IllegalStateException when it has 1000." More calls than promised, so no other answer rests on it. */
    private static void aThousand(boolean directed) {
        Supplier<TourHouse> made = () -> {
            TourHouse x = Checks.graph(directed, 1, 0, 0, Bounds.HEAVY);
            x.round(0);
            for (int k = 1; k <= 999; k++) {
                Checks.due("step " + k, x.step(0), k);
            }
            return x;
        };
        Supplier<TourHouse> full = () -> {
            TourHouse x = made.get();
            Checks.due("step 1000", x.step(0), 1000);
            return x;
        };
        Checks.due("judge(0) of 999 steps", made.get().judge(0), 999L * Bounds.HEAVY);
        Checks.due("judge(0) of 1000 steps", full.get().judge(0), 1000L * Bounds.HEAVY);
        for (int number : new int[] {0, 1, 2, -1, Bounds.MIN, Bounds.MAX}) {
            Bounds.refused("step(" + number + ") behind 1000", full, Bounds.STATE, x -> x.step(number));
        }
        TourHouse x = full.get();
        x.reset(directed, 2);
        Checks.dueThrow("step(0) behind reset", x, Bounds.STATE, () -> x.step(0));
        Checks.due("judge(0)", x.judge(0), -1);
        Checks.due("step(0) behind judge", x.step(0), 1);
    }
}

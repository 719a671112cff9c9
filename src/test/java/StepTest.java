/** Promise 10: step. */
public final class StepTest {
    public static void main(String[] args) {
        anyNumber();
        aThousandSteps();
        Checks.finish();
    }

    private static void anyNumber() {
        TourHouse x = new TourHouse();
        int[] numbers = {0, -1, 80, Integer.MAX_VALUE, Integer.MIN_VALUE};
        for (int k = 0; k < numbers.length; k++) {
            Checks.due("step(" + numbers[k] + ")", x.step(numbers[k]), k + 1);
        }
        x.reset(true, 4);
        x.edge(0, 1, 1);
        x.drop();
        Checks.due("look(6)", x.look(6), 5);
        x.judge(0);
        Checks.due("look(6)", x.look(6), 0);
        Checks.due("step(0)", x.step(0), 1);
    }

    private static void aThousandSteps() {
        TourHouse x = Checks.graph(false, 2, 0, 1, 1000000000);
        for (int k = 0; k < 1000; k++) {
            Checks.due("step " + k, x.step(k % 2), k + 1);
        }
        Checks.dueThrow("step 1000", x, IllegalStateException.class, () -> x.step(0));
        Checks.dueThrow("step 1000, a wrong number", x, IllegalStateException.class, () -> x.step(-5));
        Checks.due("look(6)", x.look(6), 1000);
        Checks.due("judge(0)", x.judge(0), 1000000000000L);
        Checks.due("step(0)", x.step(0), 1);
    }
}

/**
 * Promise 21: in how many hours, dimmed as told, the mean of a row (of the dimmed light) is below so much.
 * BAD: no such spacing.
 */
final class Promise21DarkTest {
    public static void main(String[] args) {
        byHours();
        cutOffAtEachPlace();
        wrongNumbers();
        Run.end();
    }

    private static void byHours() {
        Run run = new Run();
        run.due(0, "lamp", 0, 1000).due(0, "dark", 10, 0).due(0, "dark", 10, 1000).due(24, "dark", 10, 1001);
        run.due(100, "dim", 0, 50).due(100, "dim", 23, 10).due(100, "dim", 12, 0);
        run.due(0, "dark", 10, 0).due(1, "dark", 10, 1).due(1, "dark", 10, 100).due(2, "dark", 10, 101);
        run.due(2, "dark", 600, 500).due(3, "dark", 600, 501).due(3, "dark", 600, 1000).due(24, "dark", 600, 1001);
        run.due(24, "dark", 10, Integer.MAX_VALUE).due(0, "dark", 10, Integer.MIN_VALUE).due(0, "dark", 10, -1);
        Run each = new Run();
        each.due(0, "lamp", 0, 1000);
        for (int hour = 0; hour < 24; hour++) {
            each.due(100, "dim", hour, hour * 4);
        }
        for (int hour = 0; hour < 24; hour++) {
            each.due(hour, "dark", 10, hour * 40).due(hour + 1, "dark", 10, hour * 40 + 1);
        }
    }

    private static void cutOffAtEachPlace() {
        Run run = new Run();
        run.due(0, "lamp", 0, 3).due(0, "lamp", 10, 1).due(0, "road", 20).due(100, "dim", 4, 50);
        // At spacing 20: 3, 2, 3; halved and cut off 1, 1, 1. At 30: 3, 1, 0; halved and cut off 1, 0, 0.
        run.due(1, "dark", 20, 2).due(0, "dark", 20, 1).due(0, "dark", 30, 0).due(1, "dark", 30, 1);
        run.due(3, "lamp", 0, 199).due(1, "lamp", 10, 199).due(50, "dim", 4, 1);
        // At 30: 199, 199, 0, by a hundredth 1, 1, 0, their mean 0; the hundredth of the mean, 132, would be 1.
        run.due(1, "dark", 30, 1).due(1, "dark", 30, 132).due(24, "dark", 30, 133);
    }

    private static void wrongNumbers() {
        Run run = new Run();
        run.due(24, "dark", 10, 1).due(24, "dark", 600, 1).due(0, "dark", 10, 0);
        for (int spacing : new int[] {-10, 0, 9, 601, Integer.MIN_VALUE, Integer.MAX_VALUE}) {
            run.due(Run.BAD, "dark", spacing, 1).due(Run.BAD, "dark", spacing, 0);
        }
    }
}

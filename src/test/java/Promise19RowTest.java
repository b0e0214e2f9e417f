/**
 * Promise 19: of a row with a spacing 10 .. 600, not dimmed: 0 its least, 1 its mean, 2 its evenness, 3 how many poles.
 * BAD: none such.
 */
final class Promise19RowTest {
    public static void main(String[] args) {
        fourAnswers();
        eachAskedFirst();
        placesAndPoles();
        brightest();
        wrongNumbers();
        Run.end();
    }

    private static void fourAnswers() {
        Run run = new Run();
        run.due(0, "lamp", 0, 100).due(0, "lamp", 10, 50).due(0, "lamp", 20, 7).due(0, "road", 40);
        // At spacing 40: 100, 50, 14, 50, 100; at 30 (poles at 0, 30): 100, 57, 57, 100, 50.
        run.due(14, "row", 40, 0).due(62, "row", 40, 1).due(225, "row", 40, 2).due(2, "row", 40, 3);
        run.due(50, "row", 30, 0).due(72, "row", 30, 1).due(694, "row", 30, 2).due(2, "row", 30, 3);
        for (int hour = 0; hour < 24; hour++) {
            run.due(100, "dim", hour, 10);
        }
        run.due(14, "row", 40, 0).due(62, "row", 40, 1).due(225, "row", 40, 2).due(2, "row", 40, 3);
    }

    private static void eachAskedFirst() {
        int[] wants = {14, 62, 225, 2};
        for (int what = 0; what < 4; what++) {
            Run run = new Run();
            run.due(0, "lamp", 0, 100).due(0, "lamp", 10, 50).due(0, "lamp", 20, 7).due(0, "road", 40);
            run.due(wants[what], "row", 40, what);
        }
    }

    private static void placesAndPoles() {
        Run run = new Run();
        run.due(0, "lamp", 0, 100).due(0, "lamp", 10, 50).due(0, "road", 9);
        run.due(100, "row", 10, 0).due(100, "row", 10, 1).due(1000, "row", 10, 2).due(1, "row", 10, 3);
        run.due(9, "road", 10).due(150, "row", 10, 0).due(150, "row", 10, 1).due(1000, "row", 10, 2).due(2, "row", 10, 3);
        run.due(50, "row", 11, 0).due(75, "row", 11, 1).due(666, "row", 11, 2).due(1, "row", 11, 3);
        // Poles at 0 and 15; a lamp gives 75 at 5, 25 at 15: 125, 125, 75.
        run.due(10, "road", 29).due(75, "row", 15, 0).due(108, "row", 15, 1).due(694, "row", 15, 2).due(2, "row", 15, 3);
        run.due(29, "road", 0).due(100, "row", 600, 0).due(100, "row", 600, 1).due(1000, "row", 600, 2);
        run.due(0, "road", 5000).due(9, "row", 600, 3).due(0, "row", 600, 0).due(0, "row", 600, 2).due(501, "row", 10, 3);
        // Nine poles with 100 and, but for the first, 50 on both sides: 900 + 850, by 501.
        run.due(3, "row", 600, 1);
        run.due(100, "lamp", 0, 0).due(50, "lamp", 10, 1).due(0, "row", 600, 1).due(0, "row", 600, 2);
    }

    private static void brightest() {
        Run run = new Run();
        for (int distance = 0; distance <= 300; distance += 10) {
            run.due(0, "lamp", distance, 100000);
        }
        run.due(0, "road", 5000).due(3100000, "row", 10, 0);
        // 501 times 61 less, at both ends, 30 + 29 + .. + 1.
        run.due((int) ((501L * 61 - 2 * 465) * 100000 / 501), "row", 10, 1);
        run.due(524, "row", 10, 2);
    }

    private static void wrongNumbers() {
        Run run = new Run();
        run.due(0, "lamp", 0, 5);
        for (int what : new int[] {-1, 4, Integer.MIN_VALUE, Integer.MAX_VALUE}) {
            run.due(Run.BAD, "row", 10, what).due(Run.BAD, "row", 9, what);
        }
        for (int spacing : new int[] {-10, 0, 9, 601, Integer.MIN_VALUE, Integer.MAX_VALUE}) {
            for (int what = 0; what <= 3; what++) {
                run.due(Run.BAD, "row", spacing, what);
            }
        }
        run.due(5, "row", 10, 0).due(5, "row", 600, 0);
    }
}

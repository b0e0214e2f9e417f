/**
 * Promise 23: the greatest spacing of 10, 20, .. 600 with which the wire drops at most so many millivolts.
 * BAD: none such numbers; there is none.
 */
final class Promise23WiredTest {
    public static void main(String[] args) {
        greatestSpacing();
        wrongNumbers();
        Run.end();
    }

    private static void greatestSpacing() {
        Run run = new Run();
        run.due(600, "wired", 20000, 10000, 0).due(Run.BAD, "wired", 20000, 10000, -1).due(0, "road", 600);
        // One stretch from 310 on: 600 drops 600, 590 drops 590; two at 300 drop 900, the same as 300 with 3 currents.
        run.due(600, "wired", 1000, 1000, 600).due(590, "wired", 1000, 1000, 599).due(590, "wired", 1000, 1000, 590);
        run.due(580, "wired", 1000, 1000, 589).due(310, "wired", 1000, 1000, 310).due(Run.BAD, "wired", 1000, 1000, 309);
        run.due(600, "wired", 1000, 1000, Integer.MAX_VALUE).due(Run.BAD, "wired", 1000, 1000, Integer.MIN_VALUE);
        run.due(600, "wired", 0, 10000, 0).due(600, "wired", 20000, 0, 0).due(Run.BAD, "wired", 0, 0, -1);
        // What is told is cut off: 1.2 and 1.18 are 1, 0.98 (at 490) is 0.
        run.due(600, "wired", 2, 1000, 1).due(490, "wired", 2, 1000, 0);
        run.due(600, "road", 19).due(600, "wired", 20000, 10000, 0).due(19, "road", 5000);
        run.due(600, "wired", 20000, 10000, 4320000).due(590, "wired", 20000, 10000, 4300000);
        run.due(Run.BAD, "wired", 20000, 10000, 4000000);
    }

    private static void wrongNumbers() {
        Run run = new Run();
        for (int current : new int[] {-1, 20001, Integer.MIN_VALUE, Integer.MAX_VALUE}) {
            run.due(Run.BAD, "wired", current, 1, 1000);
        }
        for (int resist : new int[] {-1, 10001, Integer.MIN_VALUE, Integer.MAX_VALUE}) {
            run.due(Run.BAD, "wired", 1, resist, 1000);
        }
        run.due(600, "wired", 20000, 1, 1000).due(600, "wired", 1, 10000, 1000);
    }
}

/** Promise 22: what the wire drops in a row. BAD: none such. */
final class Promise22DropTest {
    public static void main(String[] args) {
        stretchByStretch();
        bounds();
        Run.end();
    }

    private static void stretchByStretch() {
        Run run = new Run();
        run.due(0, "drop", 10, 20000, 10000).due(0, "road", 99).due(0, "drop", 100, 20000, 10000);
        run.due(99, "road", 100).due(20000, "drop", 100, 20000, 10000).due(10, "drop", 100, 100, 1000);
        run.due(100, "road", 199).due(10, "drop", 100, 100, 1000).due(199, "road", 200).due(30, "drop", 100, 100, 1000);
        run.due(200, "road", 300).due(60, "drop", 100, 100, 1000).due(6, "drop", 100, 100, 100).due(0, "drop", 100, 100, 1);
        run.due(0, "drop", 100, 0, 10000).due(0, "drop", 100, 10000, 0);
        // 3 stretches' 6 currents on 83 decimetres.
        run.due(300, "road", 250).due(498, "drop", 83, 1000, 1000).due(492, "drop", 82, 1000, 1000);
        run.due(0, "drop", 83, 1, 2007).due(1, "drop", 83, 1, 2009);
        run.due(0, "lamp", 0, 5).due(100, "dim", 0, 0).due(498, "drop", 83, 1000, 1000);
    }

    private static void bounds() {
        Run run = new Run();
        run.due(0, "road", 5000).due(250500000, "drop", 10, 20000, 10000).due(4320000, "drop", 600, 20000, 10000);
        run.due(0, "drop", 10, 0, 0).due(1, "drop", 10, 1, 1);
        for (int spacing : new int[] {-10, 0, 9, 601, Integer.MIN_VALUE, Integer.MAX_VALUE}) {
            run.due(Run.BAD, "drop", spacing, 1, 1);
        }
        for (int current : new int[] {-1, 20001, Integer.MIN_VALUE, Integer.MAX_VALUE}) {
            run.due(Run.BAD, "drop", 10, current, 1);
        }
        for (int resist : new int[] {-1, 10001, Integer.MIN_VALUE, Integer.MAX_VALUE}) {
            run.due(Run.BAD, "drop", 10, 1, resist);
        }
    }
}

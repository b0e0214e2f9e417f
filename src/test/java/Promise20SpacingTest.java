/**
 * Promise 20: the widest spacing of 10, 20, .. 600 by which the mean is at least so much, and the evenness, too.
 * BAD: there is none.
 */
final class Promise20SpacingTest {
    public static void main(String[] args) {
        bothAreAsked();
        widestOfAll();
        narrowestOfAll();
        Run.end();
    }

    private static void bothAreAsked() {
        Run run = new Run();
        run.due(0, "lamp", 0, 100).due(0, "lamp", 10, 50).due(0, "lamp", 20, 7).due(0, "road", 40);
        // 10: 157 207 214 207 157, 188 and 835. 20: 107 100 114 100 107, 105 and 952. 30: 100 57 57 100 50, 72 and 694.
        // 40: 100 50 14 50 100, 62 and 225. Wider: 100 50 7 0 0, 31 and 0.
        run.due(188, "row", 10, 1).due(835, "row", 10, 2).due(105, "row", 20, 1).due(952, "row", 20, 2);
        run.due(31, "row", 50, 1).due(0, "row", 50, 2);
        run.due(600, "spacing", 31, 0).due(40, "spacing", 32, 0).due(40, "spacing", 62, 225).due(30, "spacing", 63, 225);
        run.due(30, "spacing", 62, 226).due(30, "spacing", 72, 694).due(20, "spacing", 72, 695).due(20, "spacing", 73, 0);
        run.due(20, "spacing", 105, 952).due(10, "spacing", 106, 0).due(10, "spacing", 188, 835);
        run.due(Run.BAD, "spacing", 106, 836).due(Run.BAD, "spacing", 0, 953).due(Run.BAD, "spacing", 189, 0);
        run.due(600, "spacing", -5, -5).due(600, "spacing", Integer.MIN_VALUE, Integer.MIN_VALUE);
        run.due(Run.BAD, "spacing", Integer.MAX_VALUE, 0).due(Run.BAD, "spacing", 0, Integer.MAX_VALUE);
        for (int hour = 0; hour < 24; hour++) {
            run.due(100, "dim", hour, 0);
        }
        run.due(20, "spacing", 105, 952);
    }

    private static void widestOfAll() {
        Run run = new Run();
        run.due(600, "spacing", 0, 0).due(Run.BAD, "spacing", 1, 0).due(Run.BAD, "spacing", 0, 1);
        run.due(0, "lamp", 0, 9).due(600, "spacing", 9, 1000).due(Run.BAD, "spacing", 9, 1001);
        run.due(Run.BAD, "spacing", 10, 1000);
        run.due(0, "road", 600).due(600, "spacing", 0, 0).due(10, "spacing", 0, 1).due(10, "spacing", 9, 1000);
        // 60 places: one pole with 600, two with 590.
        Run other = new Run();
        other.due(0, "lamp", 0, 60).due(0, "road", 590).due(600, "spacing", 1, 0).due(590, "spacing", 2, 0);
    }

    private static void narrowestOfAll() {
        Run run = new Run();
        run.due(0, "lamp", 0, 10).due(0, "road", 5000).due(10, "spacing", 10, 1000).due(10, "spacing", 6, 0);
        run.due(20, "spacing", 5, 0).due(Run.BAD, "spacing", 11, 0);
    }
}

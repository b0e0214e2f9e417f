/**
 * Promise 24: 0 pieces, 1 houses, 2 walls, 3 all people, 4 distances for which there is light (above 0), 5 the length.
 * BAD: another number.
 */
final class Promise24CountTest {
    public static void main(String[] args) {
        Run run = new Run();
        counts(run, 0, 0, 0, 0, 0, 0);
        run.due(0, "piece", 0, 0, 0, 0, 0);
        counts(run, 1, 0, 0, 0, 0, 0);
        run.due(0, "house", 0, 0, 0).due(1, "house", 1, 1, 1000).due(2, "house", 1, 1, 7);
        counts(run, 1, 3, 0, 1007, 0, 0);
        run.due(0, "wall", 0, 0, 1, 1, 0).due(1, "wall", 0, 0, 1, 1, 0);
        counts(run, 1, 3, 2, 1007, 0, 0);
        run.due(0, "lamp", 0, 1).due(0, "lamp", 300, 1).due(0, "lamp", 150, 100000).due(0, "lamp", 10, 0);
        counts(run, 1, 3, 2, 1007, 3, 0);
        run.due(1, "lamp", 0, 2).due(1, "lamp", 300, 0);
        counts(run, 1, 3, 2, 1007, 2, 0);
        run.due(0, "road", 4321);
        counts(run, 1, 3, 2, 1007, 2, 4321);
        Run.end();
    }

    private static void counts(Run run, int... wants) {
        for (int what = 0; what < wants.length; what++) {
            run.due(wants[what], "count", what);
        }
        for (int wrong : new int[] {-1, 6, Integer.MIN_VALUE, Integer.MAX_VALUE}) {
            run.due(Run.BAD, "count", wrong);
        }
    }
}

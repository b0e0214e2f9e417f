/** Promise 1: no pieces, houses, walls; lamps without light, length 0. */
final class Promise01NewObjectTest {
    public static void main(String[] args) {
        nothingIsThere();
        numbersAtFirst();
        objectsShareNothing();
        Run.end();
    }

    private static void nothingIsThere() {
        Run run = new Run();
        for (int what = 0; what <= 5; what++) {
            run.due(0, "count", what);
        }
        run.due(Run.BAD, "gives", 0, 0, 0)
                .due(Run.BAD, "level", 0, 0)
                .due(Run.BAD, "level", 0, 3)
                .due(Run.BAD, "loudest", 0, 0)
                .due(Run.BAD, "ranked", 0)
                .due(Run.BAD, "needed", 0, 1000)
                .due(Run.BAD, "recut", 0, 0)
                .due(0, "people", -1);
        for (int distance = 0; distance <= 310; distance++) {
            run.due(0, "shines", distance);
        }
        run.due(0, "at", 0, 10, 0).due(Run.BAD, "at", 1, 10, 0);
        run.due(0, "row", 10, 0).due(0, "row", 10, 1).due(0, "row", 10, 2).due(1, "row", 10, 3);
    }

    private static void numbersAtFirst() {
        Run run = new Run();
        run.due(30, "fall", 0);
        run.due(0, "malus", 0, 1).due(50, "malus", 1, 1).due(100, "malus", 2, 1);
        for (int hour = 0; hour < 24; hour++) {
            run.due(100, "dim", hour, 0);
        }
        for (int distance = 0; distance <= 300; distance += 10) {
            run.due(0, "lamp", distance, 1);
        }
        run.due(0, "road", 1);
    }

    private static void objectsShareNothing() {
        Run one = new Run();
        Run other = new Run();
        one.due(0, "piece", 0, 0, 1, 1, 1).due(0, "house", 0, 0, 9).due(0, "wall", 0, 0, 1, 1, 5);
        one.due(0, "lamp", 0, 7).due(0, "road", 50).due(30, "fall", 1).due(50, "malus", 1, 2).due(100, "dim", 3, 4);
        for (int what = 0; what <= 5; what++) {
            other.due(0, "count", what);
        }
        other.due(30, "fall", 2).due(50, "malus", 1, 3).due(100, "dim", 3, 5).due(0, "shines", 0);
        one.due(1, "fall", 2).due(2, "malus", 1, 3).due(4, "dim", 3, 5).due(7, "shines", 0);
    }
}

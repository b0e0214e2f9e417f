/** Promise 4: one more wall: which one. BAD: none such; both ends are one; there are 8. */
final class Promise04WallTest {
    public static void main(String[] args) {
        eightAndNoMore();
        boundsOfEachNumber();
        endsThatAreOne();
        eachOfEightCuts();
        Run.end();
    }

    private static void eightAndNoMore() {
        Run run = new Run();
        for (int wall = 0; wall < 8; wall++) {
            run.due(wall, "wall", wall, 0, wall, 1, 10 + wall).due(wall + 1, "count", 2);
        }
        run.due(Run.BAD, "wall", 0, 0, 1, 1, 300).due(8, "count", 2);
        run.due(Run.BAD, "wall", 0, 0, 0, 0, 300).due(8, "count", 2);
        for (int wall = 0; wall < 8; wall++) {
            run.due(10 + wall, "recut", wall, 1);
        }
        run.due(Run.BAD, "recut", 8, 1);
    }

    private static void boundsOfEachNumber() {
        int[] least = {-5000, -5000, -5000, -5000, 0};
        int[] most = {5000, 5000, 5000, 5000, 300};
        for (int number = 0; number < 5; number++) {
            Run run = new Run();
            int[] numbers = {1, 2, 3, 4, 5};
            for (int wrong : new int[] {least[number] - 1, most[number] + 1, Integer.MIN_VALUE, Integer.MAX_VALUE}) {
                numbers[number] = wrong;
                run.due(Run.BAD, "wall", numbers).due(0, "count", 2);
            }
            numbers[number] = least[number];
            run.due(0, "wall", numbers).due(1, "count", 2);
            numbers[number] = most[number];
            run.due(1, "wall", numbers).due(2, "count", 2);
        }
    }

    private static void endsThatAreOne() {
        Run run = new Run();
        run.due(Run.BAD, "wall", 7, 7, 7, 7, 5).due(Run.BAD, "wall", 0, 0, 0, 0, 0);
        run.due(Run.BAD, "wall", -5000, 5000, -5000, 5000, 300).due(0, "count", 2);
        run.due(0, "wall", 7, 7, 7, 8, 5).due(1, "wall", 7, 7, 8, 7, 5).due(2, "wall", 3, 9, 9, 3, 5);
        run.due(3, "count", 2);
    }

    private static void eachOfEightCuts() {
        Run run = new Run();
        run.due(0, "house", 0, 0, 1).due(0, "piece", 9, 0, 1000, 0, 0);
        for (int wall = 0; wall < 8; wall++) {
            run.due(wall, "wall", wall + 1, -1, wall + 1, 1, 10 * (wall + 1));
            run.due(1000 - 10 * (wall + 1), "gives", 0, 0, 0);
        }
    }
}

/** Promise 13: a wall's cut, 0 .. 300: what it was. BAD: none such. */
final class Promise13RecutTest {
    public static void main(String[] args) {
        Run run = new Run();
        run.due(Run.BAD, "recut", 0, 5);
        run.due(0, "piece", 0, 0, 500, 0, 0).due(0, "house", 10, 0, 1);
        run.due(0, "wall", 5, -1, 5, 1, 12).due(1, "wall", 6, -1, 6, 1, 40).due(460, "gives", 0, 0, 0);
        run.due(40, "recut", 1, 0).due(488, "gives", 0, 0, 0);
        run.due(12, "recut", 0, 300).due(200, "gives", 0, 0, 0).due(200, "level", 0, 3);
        for (int wrong : new int[] {-1, 301, Integer.MIN_VALUE, Integer.MAX_VALUE}) {
            run.due(Run.BAD, "recut", 0, wrong).due(200, "gives", 0, 0, 0);
        }
        for (int wrong : new int[] {-1, 2, 8, Integer.MIN_VALUE, Integer.MAX_VALUE}) {
            run.due(Run.BAD, "recut", wrong, 5).due(200, "gives", 0, 0, 0);
        }
        run.due(300, "recut", 0, 0).due(500, "gives", 0, 0, 0).due(0, "recut", 0, 0).due(0, "recut", 1, 300);
        run.due(300, "recut", 1, 299).due(201, "gives", 0, 0, 0).due(2, "count", 2);
        Run.end();
    }
}

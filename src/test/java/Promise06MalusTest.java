/** Promise 6: a part's malus: what it was. BAD: none such. */
final class Promise06MalusTest {
    public static void main(String[] args) {
        Run run = new Run();
        run.due(0, "piece", 0, 0, 300, 300, 300).due(0, "house", 0, 0, 1);
        run.due(400, "level", 0, 3);
        run.due(100, "malus", 2, 0).due(350, "level", 0, 3);
        run.due(50, "malus", 1, 200).due(500, "level", 0, 3);
        run.due(200, "malus", 1, 0).due(300, "level", 0, 3);
        run.due(0, "malus", 0, 200).due(500, "level", 0, 3);
        for (int wrong : new int[] {-1, 201, Integer.MIN_VALUE, Integer.MAX_VALUE}) {
            run.due(Run.BAD, "malus", 0, wrong).due(500, "level", 0, 3);
        }
        for (int wrong : new int[] {-1, 3, Integer.MIN_VALUE, Integer.MAX_VALUE}) {
            run.due(Run.BAD, "malus", wrong, 7);
        }
        run.due(200, "malus", 0, 1).due(0, "malus", 1, 2).due(0, "malus", 2, 3);
        run.due(1, "malus", 0, 1).due(2, "malus", 1, 2).due(3, "malus", 2, 3);
        run.due(303, "level", 0, 3);
        run.due(300, "level", 0, 0).due(300, "level", 0, 1).due(300, "level", 0, 2);
        Run.end();
    }
}

/** Promise 2: one more piece, with its levels by parts: which one. BAD: none such; there are 12. */
final class Promise02PieceTest {
    public static void main(String[] args) {
        twelveAndNoMore();
        boundsOfEachNumber();
        levelsStandByPart();
        Run.end();
    }

    private static void twelveAndNoMore() {
        Run run = new Run();
        for (int piece = 0; piece < 12; piece++) {
            run.due(piece, "piece", piece, 0, 100 + piece, 0, 0).due(piece + 1, "count", 0);
        }
        run.due(0, "house", 0, 0, 1);
        run.due(Run.BAD, "piece", 0, 0, 999, 999, 999).due(12, "count", 0);
        run.due(Run.BAD, "piece", 5001, 0, 0, 0, 0).due(12, "count", 0);
        run.due(100, "gives", 0, 0, 0).due(111, "gives", 11, 0, 0).due(Run.BAD, "gives", 12, 0, 0);
    }

    private static void boundsOfEachNumber() {
        int[] least = {-5000, -5000, 0, 0, 0};
        int[] most = {5000, 5000, 1200, 1200, 1200};
        Run run = new Run();
        int pieces = 0;
        for (int number = 0; number < 5; number++) {
            int[] numbers = {1, 2, 3, 4, 5};
            for (int wrong : new int[] {least[number] - 1, most[number] + 1, Integer.MIN_VALUE, Integer.MAX_VALUE}) {
                numbers[number] = wrong;
                run.due(Run.BAD, "piece", numbers).due(pieces, "count", 0);
            }
            for (int right : new int[] {least[number], most[number]}) {
                numbers[number] = right;
                run.due(pieces, "piece", numbers);
                pieces++;
                run.due(pieces, "count", 0);
            }
        }
    }

    private static void levelsStandByPart() {
        Run run = new Run();
        run.due(0, "house", -3000, 4000, 1);
        run.due(0, "piece", -3000, 4000, 11, 22, 33).due(1, "piece", -3000, 4000, 1200, 0, 1);
        run.due(11, "gives", 0, 0, 0).due(22, "gives", 0, 0, 1).due(33, "gives", 0, 0, 2);
        run.due(1200, "gives", 1, 0, 0).due(0, "gives", 1, 0, 1).due(1, "gives", 1, 0, 2);
    }
}

/** Promise 10: which piece gives a house most in a part, of several the first one. BAD: none such; none gives more than 0. */
final class Promise10LoudestTest {
    public static void main(String[] args) {
        Run run = new Run();
        run.due(0, "house", 0, 0, 1).due(1, "house", 200, 0, 1).due(Run.BAD, "loudest", 0, 0);
        run.due(0, "piece", 0, 0, 0, 500, 0).due(Run.BAD, "loudest", 0, 0).due(0, "loudest", 0, 1);
        run.due(1, "piece", 0, 0, 1, 499, 30).due(1, "loudest", 0, 0).due(0, "loudest", 0, 1).due(1, "loudest", 0, 2);
        run.due(2, "piece", 200, 0, 1, 620, 0).due(1, "loudest", 0, 0).due(0, "loudest", 0, 1).due(2, "loudest", 1, 1);
        run.due(3, "piece", 0, 0, 2, 501, 0).due(3, "loudest", 0, 0).due(3, "loudest", 0, 1);
        run.due(Run.BAD, "loudest", 1, 2).due(2, "loudest", 1, 0);
        run.due(0, "wall", -1, 0, 1, 0, 300).due(3, "loudest", 0, 1).due(Run.BAD, "loudest", 0, 0);
        for (int part : new int[] {-1, 3, Integer.MIN_VALUE, Integer.MAX_VALUE}) {
            run.due(Run.BAD, "loudest", 0, part);
        }
        for (int house : new int[] {-1, 2, 20, Integer.MIN_VALUE, Integer.MAX_VALUE}) {
            run.due(Run.BAD, "loudest", house, 1);
        }
        lastOfTwelve();
        Run.end();
    }

    private static void lastOfTwelve() {
        Run run = new Run();
        run.due(0, "house", 0, 0, 1);
        for (int piece = 0; piece < 12; piece++) {
            run.due(piece, "piece", 0, 0, 5, 50 + piece, 50 - piece);
        }
        run.due(0, "loudest", 0, 0).due(11, "loudest", 0, 1).due(0, "loudest", 0, 2);
    }
}

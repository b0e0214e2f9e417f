/** Promise 5: FALL, 0 .. 60: what it was. BAD: none such. */
final class Promise05FallTest {
    public static void main(String[] args) {
        Run run = new Run();
        run.due(0, "piece", 0, 0, 500, 0, 0).due(0, "house", 40, 0, 1).due(1, "house", 19, 0, 1);
        run.due(440, "gives", 0, 0, 0);
        run.due(30, "fall", 60).due(380, "gives", 0, 0, 0).due(500, "gives", 0, 1, 0);
        for (int wrong : new int[] {-1, 61, Integer.MIN_VALUE, Integer.MAX_VALUE}) {
            run.due(Run.BAD, "fall", wrong).due(380, "gives", 0, 0, 0);
        }
        run.due(60, "fall", 0).due(500, "gives", 0, 0, 0).due(500, "level", 0, 3);
        run.due(0, "fall", 59).due(382, "gives", 0, 0, 0);
        run.due(59, "fall", 1).due(498, "gives", 0, 0, 0).due(1, "fall", 1);
        Run.end();
    }
}

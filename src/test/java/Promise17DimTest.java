/** Promise 17: an hour's hundredths, 0 .. 100: what it was. BAD: none such. */
final class Promise17DimTest {
    public static void main(String[] args) {
        Run run = new Run();
        run.due(0, "lamp", 0, 1000);
        for (int hour = 0; hour < 24; hour++) {
            run.due(100, "dim", hour, hour).due(10 * hour, "at", 0, 10, hour);
        }
        for (int wrong : new int[] {-1, 101, Integer.MIN_VALUE, Integer.MAX_VALUE}) {
            run.due(Run.BAD, "dim", 23, wrong).due(230, "at", 0, 10, 23);
        }
        for (int wrong : new int[] {-1, 24, Integer.MIN_VALUE, Integer.MAX_VALUE}) {
            run.due(Run.BAD, "dim", wrong, 50);
        }
        for (int hour = 0; hour < 24; hour++) {
            run.due(hour, "dim", hour, 100).due(1000, "at", 0, 10, hour).due(100, "dim", hour, 0).due(0, "at", 0, 10, hour);
        }
        run.due(1000, "shines", 0).due(1000, "row", 10, 1);
        Run.end();
    }
}

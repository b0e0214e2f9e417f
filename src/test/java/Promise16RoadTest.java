/** Promise 16: the road's length, 0 .. 5,000: what it was. BAD: none such. */
final class Promise16RoadTest {
    public static void main(String[] args) {
        Run run = new Run();
        run.due(0, "road", 5000).due(5000, "count", 5).due(501, "row", 10, 3);
        for (int wrong : new int[] {-1, 5001, Integer.MIN_VALUE, Integer.MAX_VALUE}) {
            run.due(Run.BAD, "road", wrong).due(5000, "count", 5);
        }
        run.due(5000, "road", 4999).due(500, "row", 10, 3).due(4999, "road", 1).due(1, "row", 10, 3);
        run.due(1, "road", 0).due(0, "count", 5).due(0, "road", 0).due(0, "road", 123).due(123, "count", 5);
        Run.end();
    }
}

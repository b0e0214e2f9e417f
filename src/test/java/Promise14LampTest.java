/** Promise 14: the light at a distance 0, 10, .. 300: what it was. BAD: none such. */
final class Promise14LampTest {
    public static void main(String[] args) {
        eachDistance();
        boundsOfLight();
        Run.end();
    }

    private static void eachDistance() {
        Run run = new Run();
        for (int distance = -20; distance <= 330; distance++) {
            boolean told = distance >= 0 && distance <= 300 && distance % 10 == 0;
            run.due(told ? 0 : Run.BAD, "lamp", distance, 5000 + distance);
        }
        run.due(31, "count", 4);
        for (int distance = 0; distance <= 300; distance += 10) {
            run.due(5000 + distance, "shines", distance);
        }
        for (int distance = 0; distance <= 300; distance += 10) {
            run.due(5000 + distance, "lamp", distance, 0);
        }
        run.due(0, "count", 4).due(Run.BAD, "lamp", Integer.MIN_VALUE, 1).due(Run.BAD, "lamp", Integer.MAX_VALUE, 1);
        run.due(Run.BAD, "lamp", Integer.MAX_VALUE - 7, 1).due(0, "count", 4);
    }

    private static void boundsOfLight() {
        Run run = new Run();
        run.due(0, "lamp", 70, 100000).due(100000, "shines", 70);
        for (int wrong : new int[] {-1, 100001, Integer.MIN_VALUE, Integer.MAX_VALUE}) {
            run.due(Run.BAD, "lamp", 70, wrong).due(100000, "shines", 70);
        }
        run.due(100000, "lamp", 70, 0).due(0, "lamp", 70, 1).due(1, "lamp", 70, 99999).due(99999, "lamp", 70, 3);
        run.due(3, "shines", 70).due(1, "count", 4);
    }
}

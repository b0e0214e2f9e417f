/** Promise 9: how many people live in houses whose all-day level is above a limit. */
final class Promise09PeopleTest {
    public static void main(String[] args) {
        Run run = new Run();
        run.due(0, "people", 0).due(0, "people", Integer.MIN_VALUE).due(0, "people", Integer.MAX_VALUE);
        run.due(0, "house", 0, 0, 1).due(1, "house", 20, 0, 10).due(2, "house", 40, 0, 100).due(3, "house", 80, 0, 1000);
        run.due(0, "people", 0).due(1111, "people", -1).due(1111, "people", Integer.MIN_VALUE);
        run.due(0, "piece", 0, 0, 60, 0, 0);
        run.due(1111, "people", -1).due(11, "people", 0).due(11, "people", 29).due(1, "people", 30);
        run.due(1, "people", 59).due(0, "people", 60).due(0, "people", 61).due(0, "people", Integer.MAX_VALUE);
        run.due(1, "piece", 0, 0, 0, 0, 91);
        // By night: 191, 161, 131, 101.
        run.due(1111, "people", 100).due(111, "people", 101).due(111, "people", 130).due(11, "people", 131);
        run.due(11, "people", 160).due(1, "people", 161).due(1, "people", 190).due(0, "people", 191);
        run.due(1111, "count", 3);
        fullTown();
        Run.end();
    }

    private static void fullTown() {
        Run run = new Run();
        for (int house = 0; house < 20; house++) {
            run.due(house, "house", 0, 0, 1000);
        }
        run.due(20000, "people", -1).due(0, "people", 0).due(0, "piece", 0, 0, 1, 0, 0);
        run.due(20000, "people", 0).due(0, "people", 1);
    }
}

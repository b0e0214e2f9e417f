/** Promise 3: one more house: which one. BAD: none such; there are 20. */
final class Promise03HouseTest {
    public static void main(String[] args) {
        twentyAndNoMore();
        boundsOfEachNumber();
        pointAndPeopleStand();
        Run.end();
    }

    private static void twentyAndNoMore() {
        Run run = new Run();
        for (int house = 0; house < 20; house++) {
            run.due(house, "house", house, -house, 1).due(house + 1, "count", 1);
        }
        run.due(Run.BAD, "house", 0, 0, 500).due(20, "count", 1).due(20, "count", 3);
        run.due(Run.BAD, "house", 0, 0, -1).due(20, "count", 1);
        run.due(0, "level", 19, 0).due(Run.BAD, "level", 20, 0);
    }

    private static void boundsOfEachNumber() {
        int[] least = {-5000, -5000, 0};
        int[] most = {5000, 5000, 1000};
        Run run = new Run();
        int houses = 0;
        for (int number = 0; number < 3; number++) {
            int[] numbers = {1, 2, 0};
            for (int wrong : new int[] {least[number] - 1, most[number] + 1, Integer.MIN_VALUE, Integer.MAX_VALUE}) {
                numbers[number] = wrong;
                run.due(Run.BAD, "house", numbers).due(houses, "count", 1).due(0, "count", 3);
            }
            for (int right : new int[] {least[number], most[number]}) {
                numbers[number] = right;
                run.due(houses, "house", numbers);
                houses++;
                run.due(houses, "count", 1);
            }
        }
        run.due(1000, "count", 3);
    }

    private static void pointAndPeopleStand() {
        Run run = new Run();
        run.due(0, "piece", 300, -400, 900, 0, 0);
        run.due(0, "house", 300, -400, 3).due(1, "house", -400, 300, 5).due(2, "house", 300, -380, 0);
        run.due(900, "gives", 0, 0, 0).due(720, "gives", 0, 1, 0).due(870, "gives", 0, 2, 0);
        run.due(8, "people", 0).due(3, "people", 720).due(8, "count", 3);
    }
}

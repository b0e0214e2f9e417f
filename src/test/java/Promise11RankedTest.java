/** Promise 11: the k-th house by its all-day level, the loudest first, of equal ones the first. BAD: none such. */
final class Promise11RankedTest {
    public static void main(String[] args) {
        fewHouses();
        fullTown();
        Run.end();
    }

    private static void fewHouses() {
        Run run = new Run();
        run.due(Run.BAD, "ranked", 0);
        run.due(0, "house", 80, 0, 1).due(0, "ranked", 0).due(Run.BAD, "ranked", 1);
        run.due(1, "house", 20, 0, 1).due(2, "house", 80, 1, 1).due(3, "house", 0, 0, 1).due(4, "house", 21, 0, 1);
        inOrder(run, 0, 1, 2, 3, 4);
        run.due(0, "piece", 0, 0, 600, 0, 0);
        inOrder(run, 3, 1, 4, 0, 2);
        run.due(1, "piece", 80, 1, 0, 0, 560);
        // 0 and 2 have 660 by night; 1 and 4 have 600 by night, 3 by day.
        inOrder(run, 0, 2, 1, 3, 4);
        for (int wrong : new int[] {-1, 5, 20, Integer.MIN_VALUE, Integer.MAX_VALUE}) {
            run.due(Run.BAD, "ranked", wrong);
        }
    }

    private static void fullTown() {
        Run run = new Run();
        for (int house = 0; house < 20; house++) {
            run.due(house, "house", 10 << (house % 8), 0, 1);
        }
        run.due(0, "piece", 0, 0, 1000, 0, 0);
        inOrder(run, 0, 8, 16, 1, 9, 17, 2, 10, 18, 3, 11, 19, 4, 12, 5, 13, 6, 14, 7, 15);
        run.due(Run.BAD, "ranked", 20);
        run.due(30, "fall", 0);
        inOrder(run, 0, 1, 2, 3, 4, 5, 6, 7, 8, 9, 10, 11, 12, 13, 14, 15, 16, 17, 18, 19);
    }

    private static void inOrder(Run run, int... houses) {
        for (int k = 0; k < houses.length; k++) {
            run.due(houses[k], "ranked", k);
        }
        run.due(Run.BAD, "ranked", houses.length);
    }
}

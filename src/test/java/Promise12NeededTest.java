/**
 * Promise 12: the least cut of a wall, 0, 5, .. 300, with which no house's all-day level is above a limit, all else as
 * it is (the wall's cut stays). BAD: none such; none of these is enough.
 */
final class Promise12NeededTest {
    public static void main(String[] args) {
        bySteps();
        moreCutIsNotAlwaysLess();
        allHousesCount();
        otherWallsStay();
        withoutHouses();
        wrongNumbers();
        Run.end();
    }

    private static void bySteps() {
        Run run = new Run();
        run.due(0, "piece", 0, 0, 500, 0, 0).due(0, "house", 10, 0, 1).due(0, "wall", 5, -1, 5, 1, 120);
        run.due(0, "needed", 0, 501).due(0, "needed", 0, 500).due(5, "needed", 0, 499).due(5, "needed", 0, 495);
        run.due(10, "needed", 0, 494).due(120, "needed", 0, 380).due(125, "needed", 0, 379);
        run.due(295, "needed", 0, 205).due(300, "needed", 0, 204).due(300, "needed", 0, 200);
        run.due(Run.BAD, "needed", 0, 199).due(Run.BAD, "needed", 0, 0).due(Run.BAD, "needed", 0, -1);
        run.due(Run.BAD, "needed", 0, Integer.MIN_VALUE).due(0, "needed", 0, Integer.MAX_VALUE);
        run.due(380, "gives", 0, 0, 0).due(120, "recut", 0, 7).due(0, "needed", 0, 500).due(493, "gives", 0, 0, 0);
        run.due(7, "recut", 0, 0);
    }

    private static void moreCutIsNotAlwaysLess() {
        Run run = new Run();
        run.due(0, "house", 0, 0, 1).due(0, "piece", 5, 0, 100, 0, 0).due(1, "piece", -5, 0, 80, 0, 0);
        run.due(0, "wall", 2, -1, 2, 1, 0);
        // 0: 120, 5: 115, 10: 120, 15: 115, 20 to 30: 110, 35 to 50: 100, 55 to 95: 90, from 100 on 80.
        run.due(0, "needed", 0, 120).due(5, "needed", 0, 119).due(5, "needed", 0, 115);
        run.due(20, "needed", 0, 114).due(20, "needed", 0, 110).due(35, "needed", 0, 109).due(35, "needed", 0, 100);
        run.due(55, "needed", 0, 99).due(55, "needed", 0, 90).due(100, "needed", 0, 89).due(100, "needed", 0, 80);
        run.due(Run.BAD, "needed", 0, 79);
    }

    private static void allHousesCount() {
        Run run = new Run();
        run.due(0, "piece", 0, 0, 300, 0, 0).due(0, "house", 10, 0, 1).due(1, "house", -10, 0, 0);
        run.due(0, "wall", 5, -1, 5, 1, 0).due(0, "needed", 0, 300).due(Run.BAD, "needed", 0, 299);
        run.due(1, "wall", -5, -1, -5, 1, 50).due(50, "needed", 0, 250).due(Run.BAD, "needed", 0, 249);
        run.due(0, "recut", 0, 60).due(50, "needed", 1, 250).due(60, "needed", 1, 240).due(Run.BAD, "needed", 1, 239);
        run.due(60, "recut", 0, 0).due(50, "recut", 1, 0);
    }

    private static void otherWallsStay() {
        Run run = new Run();
        run.due(0, "piece", 0, 0, 0, 0, 300).due(0, "house", 10, 0, 1);
        run.due(0, "wall", 5, -1, 5, 1, 0).due(1, "wall", 6, -1, 6, 1, 33);
        run.due(0, "needed", 0, 367).due(35, "needed", 0, 366).due(295, "needed", 1, 105);
        // With 300 nothing is heard any more, and then the malus counts no more either.
        run.due(300, "needed", 1, 104).due(300, "needed", 1, 0).due(Run.BAD, "needed", 1, -1);
        run.due(0, "recut", 0, 0).due(33, "recut", 1, 33).due(367, "level", 0, 3);
    }

    private static void withoutHouses() {
        Run run = new Run();
        run.due(0, "wall", 0, 0, 1, 1, 9).due(0, "needed", 0, 0).due(0, "needed", 0, -1);
        run.due(0, "needed", 0, Integer.MIN_VALUE).due(9, "recut", 0, 9);
        run.due(0, "house", 0, 0, 5).due(0, "needed", 0, 0).due(Run.BAD, "needed", 0, -1);
    }

    private static void wrongNumbers() {
        Run run = new Run();
        run.due(Run.BAD, "needed", 0, 9999).due(0, "wall", 0, 0, 1, 1, 9).due(1, "wall", 0, 0, 1, 1, 9);
        run.due(0, "needed", 1, 9999);
        for (int wrong : new int[] {-1, 2, 8, Integer.MIN_VALUE, Integer.MAX_VALUE}) {
            run.due(Run.BAD, "needed", wrong, 9999);
        }
    }
}

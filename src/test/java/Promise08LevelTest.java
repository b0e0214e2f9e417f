/** Promise 8: a house's level in a part 0 .. 2, or (3) its all-day level. BAD: none such. */
final class Promise08LevelTest {
    public static void main(String[] args) {
        joiningByDifference();
        orderOfJoining();
        thoseThatGiveNothing();
        allDay();
        fullHouse();
        wrongNumbers();
        Run.end();
    }

    private static void joiningByDifference() {
        int[][] differencesWithMore = {
            {0, 30}, {1, 30}, {14, 30}, {15, 20}, {16, 20}, {34, 20}, {35, 10}, {36, 10}, {94, 10}, {95, 0}, {96, 0},
            {400, 0},
        };
        for (int[] pair : differencesWithMore) {
            Run run = new Run();
            run.due(0, "house", 0, 0, 1).due(0, "piece", 0, 0, 500, 500 - pair[0], 0);
            run.due(1, "piece", 0, 0, 500 - pair[0], 500, 0);
            run.due(500 + pair[1], "level", 0, 0).due(500 + pair[1], "level", 0, 1).due(0, "level", 0, 2);
        }
    }

    private static void orderOfJoining() {
        Run run = new Run();
        run.due(0, "house", 0, 0, 1);
        run.due(0, "piece", 0, 0, 500, 400, 500).due(1, "piece", 0, 0, 500, 500, 400).due(2, "piece", 0, 0, 400, 500, 500);
        run.due(530, "level", 0, 0).due(530, "level", 0, 1).due(530, "level", 0, 2);
        run.due(3, "piece", 0, 0, 520, 515, 496);
        run.due(560, "level", 0, 0).due(550, "level", 0, 1).due(550, "level", 0, 2);
        Run other = new Run();
        other.due(0, "house", 0, 0, 1);
        other.due(0, "piece", 0, 0, 100, 86, 0).due(1, "piece", 0, 0, 86, 86, 0).due(2, "piece", 0, 0, 86, 100, 0);
        other.due(140, "level", 0, 0).due(136, "level", 0, 1);
        other.due(3, "piece", 0, 0, 150, 150, 0).due(180, "level", 0, 0).due(180, "level", 0, 1);
        Run third = new Run();
        third.due(0, "house", 0, 0, 1);
        third.due(0, "piece", 0, 0, 200, 110, 0).due(1, "piece", 0, 0, 110, 120, 0).due(2, "piece", 0, 0, 120, 200, 0);
        third.due(220, "level", 0, 0).due(210, "level", 0, 1);
    }

    private static void thoseThatGiveNothing() {
        Run run = new Run();
        run.due(0, "house", 0, 0, 1).due(0, "level", 0, 0).due(0, "level", 0, 3);
        run.due(0, "piece", 0, 0, 0, 5, 0).due(0, "level", 0, 0).due(5, "level", 0, 1);
        run.due(1, "piece", 40, 0, 60, 60, 0).due(0, "level", 0, 0).due(5, "level", 0, 1);
        run.due(2, "piece", 0, 0, 7, 0, 0).due(7, "level", 0, 0).due(5, "level", 0, 1);
        run.due(3, "piece", 0, 0, 0, 1, 0).due(7, "level", 0, 0).due(35, "level", 0, 1).due(0, "level", 0, 2);
    }

    private static void allDay() {
        Run run = new Run();
        run.due(0, "house", 0, 0, 1).due(1, "house", 0, 0, 1).due(0, "piece", 0, 0, 100, 0, 0).due(100, "level", 0, 3);
        Run night = new Run();
        night.due(0, "house", 0, 0, 1).due(0, "piece", 0, 0, 100, 0, 1).due(101, "level", 0, 3);
        Run evening = new Run();
        evening.due(0, "house", 0, 0, 1).due(0, "piece", 0, 0, 100, 60, 9).due(110, "level", 0, 3);
        Run equal = new Run();
        equal.due(0, "house", 0, 0, 1).due(0, "piece", 0, 0, 150, 100, 50).due(150, "level", 0, 3);
        Run none = new Run();
        none.due(0, "house", 0, 0, 1).due(0, "piece", 0, 0, 0, 0, 0).due(0, "level", 0, 3);
        none.due(0, "malus", 0, 200).due(0, "level", 0, 3).due(1, "piece", 0, 0, 1, 0, 0).due(201, "level", 0, 3);
    }

    private static void fullHouse() {
        Run run = new Run();
        run.due(0, "house", 1, 1, 1);
        for (int piece = 0; piece < 12; piece++) {
            run.due(piece, "piece", 1, 1, 1200, 1200, 1200);
        }
        // 1200; 1230; 30 apart: 1250; 50, 60, 70, 80, 90 apart: 1300; from 100 apart on nothing more.
        run.due(1300, "level", 0, 0).due(100, "malus", 2, 200).due(1500, "level", 0, 3);
    }

    private static void wrongNumbers() {
        Run run = new Run();
        run.due(0, "piece", 0, 0, 9, 9, 9).due(1, "piece", 0, 0, 9, 9, 9).due(0, "house", 0, 0, 1);
        for (int part : new int[] {-1, 4, Integer.MIN_VALUE, Integer.MAX_VALUE}) {
            run.due(Run.BAD, "level", 0, part);
        }
        for (int house : new int[] {-1, 1, 20, Integer.MIN_VALUE, Integer.MAX_VALUE}) {
            for (int part = 0; part <= 3; part++) {
                run.due(Run.BAD, "level", house, part);
            }
        }
    }
}

/** Promise 7: what a piece gives a house in a part. BAD: none such. */
final class Promise07GivesTest {
    private static final int HIGH = 1000;
    private static final int CUT = 100;

    public static void main(String[] args) {
        doublings();
        wallsThatCutAndThatDoNot();
        missedByTheLeast();
        wallAtOnePoint();
        inAnyOrder();
        wallBeforeTheRest();
        eachPairForItself();
        greatestCutAlone();
        notBelowNothing();
        wrongNumbers();
        Run.end();
    }

    private static void doublings() {
        int[][] ways = {
            {0, 0, 0}, {9, 0, 0}, {10, 0, 0}, {19, 0, 0}, {20, 0, 1}, {39, 0, 1}, {40, 0, 2}, {79, 0, 2}, {80, 0, 3},
            {159, 0, 3}, {160, 0, 4}, {319, 0, 4}, {320, 0, 5}, {639, 0, 5}, {640, 0, 6}, {1279, 0, 6}, {1280, 0, 7},
            {2559, 0, 7}, {2560, 0, 8}, {5000, 0, 8}, {6, 8, 0}, {12, 15, 0}, {12, 16, 1}, {-16, 12, 1},
            {14, 14, 0}, {14, -15, 1}, {-24, -32, 2}, {24, 31, 1}, {0, -20, 1}, {0, -19, 0}, {-1536, 2048, 8},
        };
        for (int[] way : ways) {
            Run run = new Run();
            run.due(0, "piece", 0, 0, HIGH, HIGH, HIGH).due(0, "house", way[0], way[1], 1);
            run.due(HIGH - 30 * way[2], "gives", 0, 0, 0);
        }
        Run far = new Run();
        far.due(0, "piece", -5000, -5000, 1200, 0, 0).due(0, "house", 5000, 5000, 1).due(900, "gives", 0, 0, 0);
        far.due(1, "house", 120, 0, 1).due(930, "gives", 0, 1, 0);
        far.due(2, "house", 1144, 3192, 1).due(900, "gives", 0, 2, 0);
        far.due(3, "house", 1144, 3191, 1).due(930, "gives", 0, 3, 0);
    }

    /** From (0, 0) to (12, 6), and back. */
    private static void wallsThatCutAndThatDoNot() {
        int[][] cutting = {
            {0, 6, 12, 0}, {12, 0, 0, 6}, {6, 3, 7, 9}, {7, 9, 6, 3}, {6, 3, 5, -5}, {0, 0, -3, 4}, {-3, 4, 0, 0},
            {12, 6, 12, 7}, {0, -1, 0, 1}, {-2, -1, 14, 7}, {2, 1, 4, 2}, {-2, -1, 2, 1}, {10, 5, 20, 10},
            {-4, -2, 0, 0}, {12, 6, 14, 7}, {0, 0, 12, 6}, {12, 6, 0, 0}, {5, 0, 5, 5000}, {-5000, 3, 5000, 3},
            {5000, 4998, -5000, -5000},
        };
        int[][] missing = {
            {7, 3, 8, -5}, {5, 3, 5, 9}, {-4, -2, -2, -1}, {14, 7, 20, 10}, {0, 1, 12, 7}, {0, -1, 12, 5},
            {-1, 0, -1, 5}, {13, 6, 13, 0}, {-1, 1, 1, 1}, {12, 5, 13, 6}, {4, 1, 8, 3}, {-3, 9, 2, 2},
            {5000, 5000, 13, 7}, {-5000, 4, 7, 4}, {1, 6, 2, 3}, {5, 1, 12, 0}, {4998, 5000, -5000, -5000},
        };
        for (int[] wall : cutting) {
            goBothWays(wall, HIGH - CUT);
        }
        for (int[] wall : missing) {
            goBothWays(wall, HIGH);
        }
    }

    private static void goBothWays(int[] wall, int want) {
        Run run = new Run();
        run.due(0, "piece", 0, 0, HIGH, 0, 0).due(0, "house", 12, 6, 1);
        run.due(1, "piece", 12, 6, HIGH, 0, 0).due(1, "house", 0, 0, 1);
        run.due(0, "wall", wall[0], wall[1], wall[2], wall[3], CUT);
        run.due(want, "gives", 0, 0, 0).due(want, "gives", 1, 1, 0);
    }

    /** (1, 1) is as near to the line from (0, 0) to (3, 2) as a point can be that isn't on it. */
    private static void missedByTheLeast() {
        int[] aside = {1, 1, 0, 5};
        int[] along = {0, 0, 3, 2};
        for (int mirrored = 1; mirrored >= -1; mirrored -= 2) {
            for (int[] way : new int[][] {aside, turned(aside)}) {
                for (int[] wall : new int[][] {along, turned(along)}) {
                    goOneWay(way, wall, mirrored);
                    goOneWay(wall, way, mirrored);
                }
            }
        }
    }

    private static int[] turned(int[] line) {
        return new int[] {line[2], line[3], line[0], line[1]};
    }

    private static void goOneWay(int[] way, int[] wall, int mirrored) {
        Run run = new Run();
        run.due(0, "piece", way[0], mirrored * way[1], HIGH, 0, 0).due(0, "house", way[2], mirrored * way[3], 1);
        run.due(0, "wall", wall[0], mirrored * wall[1], wall[2], mirrored * wall[3], CUT).due(HIGH, "gives", 0, 0, 0);
    }

    private static void wallAtOnePoint() {
        Run run = new Run();
        run.due(0, "wall", 0, 0, 10, 4, CUT);
        int[][] pointsWithWant = {
            {5, 2, HIGH - CUT}, {0, 0, HIGH - CUT}, {10, 4, HIGH - CUT}, {5, 3, HIGH}, {15, 6, HIGH}, {-5, -2, HIGH},
            {4, 2, HIGH}, {0, 4, HIGH}, {10, 0, HIGH},
        };
        for (int i = 0; i < pointsWithWant.length; i++) {
            int x = pointsWithWant[i][0];
            int y = pointsWithWant[i][1];
            run.due(i, "piece", x, y, HIGH, 0, 0).due(i, "house", x, y, 1);
            run.due(pointsWithWant[i][2], "gives", i, i, 0);
        }
    }

    private static void inAnyOrder() {
        String[] orders = {"phw", "pwh", "hpw", "hwp", "wph", "whp"};
        for (String order : orders) {
            Run run = new Run();
            for (char kind : order.toCharArray()) {
                tellOne(run, kind);
            }
            run.due(900, "gives", 0, 0, 0).due(HIGH, "gives", 0, 1, 0);
            run.due(HIGH, "gives", 1, 0, 0).due(HIGH, "gives", 1, 1, 0);
        }
    }

    private static void tellOne(Run run, char kind) {
        if (kind == 'p') {
            run.due(0, "piece", 0, 0, HIGH, 0, 0).due(1, "piece", 10, 5, HIGH, 0, 0);
        } else if (kind == 'h') {
            run.due(0, "house", 10, 0, 1).due(1, "house", 0, 10, 1);
        } else {
            run.due(0, "wall", 5, -1, 5, 1, CUT);
        }
    }

    /** The wall would stand between, if what came later stood at (0, 0). */
    private static void wallBeforeTheRest() {
        Run house = new Run();
        house.due(0, "piece", 10, 0, HIGH, 0, 0).due(0, "wall", 5, -1, 5, 1, CUT).due(0, "house", 19, 0, 1);
        house.due(HIGH, "gives", 0, 0, 0);
        Run piece = new Run();
        piece.due(0, "house", 10, 0, 1).due(0, "wall", 5, -1, 5, 1, CUT).due(0, "piece", 19, 0, HIGH, 0, 0);
        piece.due(HIGH, "gives", 0, 0, 0);
    }

    /** Twelve pieces and twenty houses on a line, a wall across it between the sixth and the seventh piece. */
    private static void eachPairForItself() {
        Run run = new Run();
        for (int piece = 0; piece < 12; piece++) {
            run.due(piece, "piece", 100 * piece, 0, HIGH, 0, 0);
        }
        for (int house = 0; house < 20; house++) {
            run.due(house, "house", 60 * house, 0, 1);
        }
        run.due(0, "wall", 550, -1, 550, 1, CUT);
        for (int piece = 0; piece < 12; piece++) {
            for (int house = 0; house < 20; house++) {
                int apart = Math.abs(100 * piece - 60 * house);
                int doublings = apart < 20 ? 0 : (int) (Math.log(apart / 10.0) / Math.log(2) + 1e-9);
                int cut = 100 * piece < 550 == 60 * house < 550 ? 0 : CUT;
                run.due(HIGH - 30 * doublings - cut, "gives", piece, house, 0);
            }
        }
    }

    private static void greatestCutAlone() {
        Run run = new Run();
        run.due(0, "piece", 0, 0, HIGH, 700, 0).due(0, "house", 160, 0, 1).due(880, "gives", 0, 0, 0);
        run.due(0, "wall", 1, -1, 1, 1, 50).due(830, "gives", 0, 0, 0);
        run.due(1, "wall", 2, -1, 2, 1, 300).due(580, "gives", 0, 0, 0).due(280, "gives", 0, 0, 1);
        run.due(2, "wall", 3, -1, 3, 1, 299).due(580, "gives", 0, 0, 0);
        run.due(3, "wall", 4, -1, 4, 1, 0).due(580, "gives", 0, 0, 0);
        run.due(300, "recut", 1, 0).due(581, "gives", 0, 0, 0);
    }

    private static void notBelowNothing() {
        Run run = new Run();
        run.due(0, "piece", 0, 0, 0, 60, 61).due(0, "house", 40, 0, 1).due(1, "house", 0, 0, 1);
        run.due(0, "gives", 0, 0, 0).due(0, "gives", 0, 0, 1).due(1, "gives", 0, 0, 2);
        run.due(30, "fall", 60).due(0, "gives", 0, 0, 2).due(0, "gives", 0, 0, 0);
        run.due(0, "gives", 0, 1, 0).due(60, "gives", 0, 1, 1).due(61, "gives", 0, 1, 2);
    }

    private static void wrongNumbers() {
        Run run = new Run();
        run.due(0, "piece", 0, 0, 9, 9, 9).due(0, "house", 0, 0, 1).due(1, "house", 0, 0, 1);
        run.due(9, "gives", 0, 1, 2).due(Run.BAD, "gives", 1, 1, 2);
        for (int wrong : new int[] {-1, 3, Integer.MIN_VALUE, Integer.MAX_VALUE}) {
            run.due(Run.BAD, "gives", wrong, 0, 0).due(Run.BAD, "gives", 0, wrong, 0).due(Run.BAD, "gives", 0, 0, wrong);
        }
        run.due(Run.BAD, "gives", 0, 2, 0);
    }
}

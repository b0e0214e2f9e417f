/** The boundary cases of the document's terms of noise, each with a test of its own. */
final class SentencesOfNoise {
    private static final int BAD = Run.BAD;
    private static final int FAR = 5000;

    private SentencesOfNoise() {
    }

    static void look() {
        piecesHousesAndWalls();
        whatAPieceGives();
        levels();
    }

    private static void of(String words, Runnable test) {
        Boundary.sentence("Terms", words, test);
    }

    private static void piecesHousesAndWalls() {
        of("PIECES of road (at most 12)", SentencesOfNoise::twelvePieces);
        of("points (metres, - 5,000 .. 5,000 each)", SentencesOfNoise::pointsAtTheEdge);
        of("a level for each of three PARTS of the day, 0 .. 1,200", SentencesOfNoise::leastAndMostLevels);
        of("(0: none there)", SentencesOfNoise::noLevelThere);
        of("HOUSES (at most 20)", SentencesOfNoise::twentyHouses);
        of("0 .. 1,000 people", SentencesOfNoise::leastAndMostPeople);
        of("WALLS (at most 8)", SentencesOfNoise::eightWalls);
        of("a CUT 0 .. 300", SentencesOfNoise::leastAndMostCut);
    }

    private static void whatAPieceGives() {
        of("FALL (0 .. 60; 30 at first)", SentencesOfNoise::leastAndMostFall);
        of("doubling of ten metres that lies between them: that is the greatest k from 0 on for which their distance is 10"
                + " times 2 to the power of k, or more", SentencesOfNoise::atEachDoubling);
        of("(0 below that)", SentencesOfNoise::belowTenMetres);
        of("the walls that have a point in common with the straight line between them", SentencesOfNoise::pointInCommon);
        of("(ends count)", SentencesOfNoise::endsCount);
        of("the greatest cut of", SentencesOfNoise::greatestCut);
        of("not less than 0", SentencesOfNoise::notBelowNothing);
    }

    private static void levels() {
        of("30, if they differ by less than 15", () -> joins(30, 0, 1, 13, 14));
        of("20 by less than 35", () -> joins(20, 15, 16, 33, 34));
        of("10 by less than 95", () -> joins(10, 35, 36, 93, 94));
        of("else 0.", () -> joins(0, 95, 96, 300, 599));
        of("joined one by one in the order in which they came", SentencesOfNoise::orderOfJoining);
        of("without those that give 0", SentencesOfNoise::withoutTheSilent);
        of("(0 without any)", SentencesOfNoise::nothingToJoin);
        of("the greatest of its parts' levels that are above 0", SentencesOfNoise::partsAboveNothing);
        of("MALUS (0 .. 200; 0, 50, 100 at first)", SentencesOfNoise::leastAndMostMalus);
        of("; 0 without.", SentencesOfNoise::noPartHeard);
    }

    private static void twelvePieces() {
        Run run = new Run();
        run.due(0, "house", 0, 0, 1).due(0, "count", 0);
        for (int piece = 0; piece < 12; piece++) {
            run.due(piece, "piece", piece, 0, 100 + piece, 0, 0).due(piece + 1, "count", 0).due(piece, "loudest", 0, 0);
        }
        run.due(BAD, "piece", 0, 0, 1200, 0, 0).due(12, "count", 0).due(11, "loudest", 0, 0).due(111, "gives", 11, 0, 0);
        run.due(BAD, "gives", 12, 0, 0);
        fullTown("hwp");
        fullTown("whp");
    }

    private static void pointsAtTheEdge() {
        for (int place = 0; place < 2; place++) {
            Boundary.bounds(0, -FAR, FAR, place, "piece", 1, 2, 3, 4, 5);
            Boundary.bounds(0, -FAR, FAR, place, "house", 1, 2, 3);
        }
        for (int place = 0; place < 4; place++) {
            Boundary.bounds(0, -FAR, FAR, place, "wall", 1, 2, 3, 4, 5);
        }
        Run run = new Run();
        run.due(0, "piece", -FAR, FAR, 1000, 0, 0).due(0, "house", FAR, -FAR, 1).due(1, "house", -FAR, FAR, 1);
        run.due(700, "gives", 0, 0, 0).due(1000, "gives", 0, 1, 0);
        run.due(0, "wall", FAR, FAR, -FAR, -FAR, 40).due(660, "gives", 0, 0, 0).due(1000, "gives", 0, 1, 0);
    }

    private static void leastAndMostLevels() {
        for (int place = 2; place < 5; place++) {
            Boundary.bounds(0, 0, 1200, place, "piece", 1, 2, 3, 4, 5);
        }
        for (int part = 0; part < 3; part++) {
            Run run = new Run();
            run.due(0, "house", 0, 0, 1).due(0, "piece", Boundary.with(new int[] {0, 0, 0, 0, 0}, 2 + part, 1200));
            for (int asked = 0; asked < 3; asked++) {
                run.due(asked == part ? 1200 : 0, "gives", 0, 0, asked);
            }
        }
    }

    private static void noLevelThere() {
        Run run = new Run();
        run.due(0, "house", 0, 0, 1).due(0, "piece", 0, 0, 0, 10, 0).due(0, "gives", 0, 0, 0).due(0, "level", 0, 0);
        run.due(BAD, "loudest", 0, 0).due(10, "level", 0, 1).due(60, "level", 0, 3);
        run.due(1, "piece", 0, 0, 0, 0, 0).due(10, "level", 0, 1).due(60, "level", 0, 3).due(2, "count", 0);
    }

    private static void twentyHouses() {
        Run run = new Run();
        run.due(0, "piece", 0, 0, 500, 0, 0).due(0, "count", 1);
        for (int house = 0; house < 20; house++) {
            run.due(house, "house", 0, house % 10, 1).due(house + 1, "count", 1).due(house + 1, "count", 3);
        }
        run.due(BAD, "house", 0, 0, 1).due(20, "count", 1).due(20, "count", 3).due(500, "level", 19, 0);
        run.due(BAD, "level", 20, 0).due(20, "people", 499).due(19, "ranked", 19).due(BAD, "ranked", 20);
        fullTown("pwh");
        fullTown("wph");
    }

    private static void leastAndMostPeople() {
        Boundary.bounds(0, 0, 1000, 2, "house", 1, 2, 3);
        Run run = new Run();
        run.due(0, "house", 0, 0, 0).due(0, "count", 3).due(0, "people", -1);
        run.due(1, "house", 0, 0, 1000).due(1000, "count", 3).due(1000, "people", -1).due(0, "people", 0);
        for (int house = 2; house < 20; house++) {
            run.due(house, "house", 0, 0, 1000);
        }
        run.due(19000, "count", 3).due(19000, "people", -1);
    }

    private static void eightWalls() {
        Run run = new Run();
        run.due(0, "piece", 0, 0, 900, 0, 0).due(0, "house", 0, 10, 1).due(0, "count", 2);
        for (int wall = 0; wall < 8; wall++) {
            run.due(wall, "wall", -1, wall + 1, 1, wall + 1, 10 + wall).due(wall + 1, "count", 2);
            run.due(890 - wall, "gives", 0, 0, 0);
        }
        run.due(BAD, "wall", -1, 9, 1, 9, 300).due(8, "count", 2).due(883, "gives", 0, 0, 0).due(BAD, "recut", 8, 300);
        run.due(BAD, "needed", 8, 900).due(17, "recut", 7, 300).due(600, "gives", 0, 0, 0);
        fullTown("phw");
        fullTown("hpw");
    }

    /**
     * Told in any order, each pair of the full town has its own distance and walls: pieces stand each hundred metres
     * along a line, houses each sixty, and walls across it at 75, 225, .. 1,125, each with a greater cut.
     */
    private static void fullTown(String order) {
        Run run = new Run();
        for (char kind : order.toCharArray()) {
            tellAll(run, kind);
        }
        run.due(BAD, "piece", 0, 0, 0, 0, 0).due(BAD, "house", 0, 0, 0).due(BAD, "wall", 0, 0, 1, 1, 0);
        for (int piece = 0; piece < 12; piece++) {
            for (int house = 0; house < 20; house++) {
                run.due(1000 - 30 * doublings(piece, house) - cut(piece, house), "gives", piece, house, 0);
            }
        }
        run.due(20, "people", 0).due(0, "needed", 7, 9999).due(BAD, "needed", 7, 0);
    }

    private static void tellAll(Run run, char kind) {
        for (int piece = 0; kind == 'p' && piece < 12; piece++) {
            run.due(piece, "piece", 100 * piece, 0, 1000, 0, 0);
        }
        for (int house = 0; kind == 'h' && house < 20; house++) {
            run.due(house, "house", 60 * house, 0, 1);
        }
        for (int wall = 0; kind == 'w' && wall < 8; wall++) {
            run.due(wall, "wall", 75 + 150 * wall, -1, 75 + 150 * wall, 1, 10 * wall + 10);
        }
    }

    private static int doublings(int piece, int house) {
        int doublings = 0;
        for (int k = 1; 10 << k <= Math.abs(100 * piece - 60 * house); k++) {
            doublings = k;
        }
        return doublings;
    }

    private static int cut(int piece, int house) {
        int cut = 0;
        for (int wall = 0; wall < 8; wall++) {
            boolean beforePiece = 75 + 150 * wall < 100 * piece;
            boolean beforeHouse = 75 + 150 * wall < 60 * house;
            cut = beforePiece != beforeHouse ? 10 * wall + 10 : cut;
        }
        return cut;
    }

    private static void leastAndMostCut() {
        Boundary.bounds(0, 0, 300, 4, "wall", 1, 2, 3, 4, 5);
        Boundary.boundsAfter(Town::onePoint, 0, 0, 300, 1, "recut", 0, 5);
        Run run = new Run();
        run.due(0, "piece", 0, 0, 900, 0, 0).due(0, "house", 0, 10, 1).due(0, "wall", -1, 5, 1, 5, 0);
        run.due(900, "gives", 0, 0, 0).due(1, "wall", -1, 5, 1, 5, 300).due(600, "gives", 0, 0, 0);
    }

    private static void leastAndMostFall() {
        Boundary.bounds(30, 0, 60, 0, "fall", 5);
        Run run = new Run();
        run.due(0, "piece", 0, 0, 900, 0, 0).due(0, "house", 0, 20, 1).due(870, "gives", 0, 0, 0);
        run.due(30, "fall", 60).due(840, "gives", 0, 0, 0).due(60, "fall", 0).due(900, "gives", 0, 0, 0);
    }

    private static void atEachDoubling() {
        for (int k = 1; k <= 8; k++) {
            int distance = 10 << k;
            fallsOff(k, 0, distance);
            fallsOff(k, -distance, 0);
            fallsOff(k - 1, 0, distance - 1);
            fallsOff(k - 1, 1 - distance, 0);
            fallsOff(k, distance * 3 / 5, -distance * 4 / 5);
            fallsOff(k - 1, distance * 3 / 5, 1 - distance * 4 / 5);
        }
        farApart(9, 5120, 0);
        farApart(8, 5119, 0);
        // 10,240 metres: 10,000 to one side, and just above 2,203.99 to the other.
        farApart(10, 10000, 2204);
        farApart(9, 10000, 2203);
        farApart(10, 10000, 10000);
    }

    private static void belowTenMetres() {
        fallsOff(0, 0, 0);
        fallsOff(0, 1, 0);
        fallsOff(0, 0, -9);
        fallsOff(0, 9, 4);
        fallsOff(0, 10, 0);
        fallsOff(0, 0, 19);
    }

    private static void fallsOff(int doublings, int dx, int dy) {
        Run run = new Run();
        run.due(0, "piece", 0, 0, 1000, 0, 0).due(0, "house", dx, dy, 1).due(1000 - 30 * doublings, "gives", 0, 0, 0);
    }

    private static void farApart(int doublings, int dx, int dy) {
        Run run = new Run();
        run.due(0, "piece", -FAR, FAR, 1000, 0, 0).due(0, "house", dx - FAR, FAR - dy, 1);
        run.due(1000 - 30 * doublings, "gives", 0, 0, 0);
    }

    /** The line goes from (0, 0) to (8, 4), and (2, 1), (4, 2) and (6, 3) are the whole points on it. */
    private static void pointInCommon() {
        int[][] cutting = {{0, 4, 8, 0}, {3, 3, 5, 1}, {4, 2, 9, -9}, {4, 2, 2, 1}, {-2, -1, 10, 5}, {6, 3, 10, 5}};
        int[][] missing = {{1, 1, 7, 4}, {1, 0, 8, 3}, {3, 2, 0, 4}, {5, 2, 9, -9}, {10, 5, 12, 6}, {-2, -1, -4, -2}};
        for (int[] wall : cutting) {
            cuts(true, wall);
        }
        for (int[] wall : missing) {
            cuts(false, wall);
        }
        Run onePoint = new Run();
        Town.onePoint(onePoint);
        onePoint.due(0, "recut", 0, 50).due(850, "gives", 0, 0, 0).due(1, "wall", 4, 3, 6, 5, 60).due(850, "gives", 0, 0, 0);
    }

    private static void endsCount() {
        int[][] cutting = {
            {0, 0, -3, 1}, {-3, 1, 0, 0}, {8, 4, 9, 4}, {9, 9, 8, 4}, {0, 0, -2, -1}, {8, 4, 10, 5}, {-1, 1, 1, -1},
            {9, 2, 7, 6}, {0, 0, 8, 4}, {8, 4, 0, 0}, {4, 2, 4, 9}, {2, -5, 2, 1},
        };
        int[][] missing = {{-1, 0, -3, 1}, {0, 1, -3, 1}, {9, 4, 9, 9}, {8, 5, 9, 9}, {4, 3, 4, 9}, {2, -5, 2, 0}};
        for (int[] wall : cutting) {
            cuts(true, wall);
        }
        for (int[] wall : missing) {
            cuts(false, wall);
        }
    }

    private static void cuts(boolean cuts, int[] wall) {
        Run run = new Run();
        run.due(0, "piece", 0, 0, 1000, 0, 0).due(0, "house", 8, 4, 1);
        run.due(1, "piece", 8, 4, 1000, 0, 0).due(1, "house", 0, 0, 1);
        run.due(0, "wall", wall[0], wall[1], wall[2], wall[3], 70);
        run.due(cuts ? 930 : 1000, "gives", 0, 0, 0).due(cuts ? 930 : 1000, "gives", 1, 1, 0);
    }

    private static void greatestCut() {
        Run run = new Run();
        run.due(0, "piece", 0, 0, 1000, 0, 0).due(0, "house", 8, 4, 1).due(1000, "gives", 0, 0, 0);
        run.due(0, "wall", 0, 4, 8, 0, 70).due(1, "wall", 0, 4, 8, 0, 90).due(2, "wall", 0, 4, 8, 0, 80);
        run.due(910, "gives", 0, 0, 0).due(3, "wall", 0, 4, 1, 4, 300).due(910, "gives", 0, 0, 0);
        run.due(90, "recut", 1, 0).due(920, "gives", 0, 0, 0);
    }

    private static void notBelowNothing() {
        Run run = new Run();
        run.due(0, "house", 20, 0, 1).due(0, "piece", 0, 0, 29, 30, 31).due(0, "gives", 0, 0, 0);
        run.due(0, "gives", 0, 0, 1).due(1, "gives", 0, 0, 2).due(101, "level", 0, 3);
        run.due(0, "wall", 5, -5, 5, 5, 300).due(1, "piece", 0, 0, 329, 330, 331).due(0, "gives", 1, 0, 0);
        run.due(0, "gives", 1, 0, 1).due(1, "gives", 1, 0, 2).due(0, "gives", 0, 0, 2);
        Run farthest = new Run();
        farthest.due(30, "fall", 60).due(0, "piece", -FAR, -FAR, 899, 900, 901).due(0, "house", FAR, FAR, 1);
        farthest.due(0, "wall", -1, 1, 1, -1, 300).due(0, "gives", 0, 0, 0).due(0, "gives", 0, 0, 1).due(1, "gives", 0, 0, 2);
    }

    private static void joins(int more, int... differences) {
        for (int apart : differences) {
            Run run = new Run();
            run.due(0, "house", 0, 0, 1).due(0, "piece", 0, 0, 600, 600 - apart, 0);
            run.due(1, "piece", 0, 0, 600 - apart, 600, 0).due(600 + more, "level", 0, 0).due(600 + more, "level", 0, 1);
        }
    }

    private static void orderOfJoining() {
        Run run = new Run();
        run.due(0, "house", 0, 0, 1).due(0, "piece", 0, 0, 200, 110, 110).due(200, "level", 0, 0);
        run.due(1, "piece", 0, 0, 110, 120, 200).due(210, "level", 0, 0).due(150, "level", 0, 1).due(210, "level", 0, 2);
        run.due(2, "piece", 0, 0, 120, 200, 120).due(220, "level", 0, 0).due(210, "level", 0, 1).due(220, "level", 0, 2);
    }

    private static void withoutTheSilent() {
        Run run = new Run();
        run.due(0, "house", 0, 0, 1).due(0, "piece", 0, 0, 0, 8, 8).due(1, "piece", 0, 0, 8, 0, 8);
        run.due(8, "level", 0, 0).due(8, "level", 0, 1).due(38, "level", 0, 2);
        // From forty metres on sixty are no more.
        run.due(2, "piece", 40, 0, 60, 60, 61).due(8, "level", 0, 0).due(8, "level", 0, 1).due(48, "level", 0, 2);
    }

    private static void nothingToJoin() {
        Run run = new Run();
        run.due(0, "house", 0, 0, 1);
        for (int part = 0; part <= 3; part++) {
            run.due(0, "level", 0, part);
        }
        run.due(0, "piece", 0, 0, 0, 0, 0).due(1, "piece", 20, 0, 30, 30, 30);
        for (int part = 0; part <= 3; part++) {
            run.due(0, "level", 0, part);
        }
    }

    private static void partsAboveNothing() {
        Run run = new Run();
        run.due(0, "house", 0, 0, 1).due(0, "piece", 0, 0, 30, 0, 0).due(30, "level", 0, 3);
        run.due(100, "malus", 2, 200).due(50, "malus", 1, 199).due(30, "level", 0, 3);
        run.due(1, "piece", 0, 0, 0, 2, 0).due(201, "level", 0, 3).due(2, "piece", 0, 0, 0, 0, 1).due(201, "level", 0, 3);
        run.due(3, "piece", 0, 0, 500, 0, 0).due(500, "level", 0, 3);
    }

    private static void leastAndMostMalus() {
        int[] atFirst = {0, 50, 100};
        for (int part = 0; part < 3; part++) {
            Boundary.bounds(atFirst[part], 0, 200, 1, "malus", part, 5);
            Run run = new Run();
            run.due(0, "house", 0, 0, 1).due(0, "piece", Boundary.with(new int[] {0, 0, 0, 0, 0}, 2 + part, 400));
            run.due(400 + atFirst[part], "level", 0, 3).due(atFirst[part], "malus", part, 200).due(600, "level", 0, 3);
            run.due(200, "malus", part, 0).due(400, "level", 0, 3).due(400, "level", 0, part);
        }
    }

    private static void noPartHeard() {
        Run run = new Run();
        run.due(0, "house", 0, 0, 9).due(0, "malus", 0, 200).due(50, "malus", 1, 200).due(100, "malus", 2, 200);
        run.due(0, "level", 0, 3).due(0, "people", 0).due(9, "people", -1);
        run.due(0, "piece", 0, 0, 0, 0, 0).due(0, "level", 0, 3).due(0, "people", 0);
    }
}

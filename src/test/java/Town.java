/** Objects that were told of something, for tests that ask afterwards. */
final class Town {
    private static final int BRIGHTEST = 100000;

    private Town() {
    }

    /** Three pieces, four houses, three walls, and nothing as it was at first. */
    static void small(Run run) {
        run.due(0, "piece", 0, 0, 700, 650, 600).due(1, "piece", 100, 30, 680, 0, 640).due(2, "piece", -90, 200, 500, 490, 0);
        run.due(0, "house", 15, 20, 3).due(1, "house", 60, 45, 50).due(2, "house", -40, 120, 700).due(3, "house", 300, 9, 0);
        run.due(0, "wall", 10, 5, 5, 20, 80).due(1, "wall", 40, 100, 70, -20, 200).due(2, "wall", 0, 90, -80, 95, 35);
        run.due(30, "fall", 25).due(0, "malus", 0, 5).due(50, "malus", 1, 60).due(100, "malus", 2, 90);
        for (int distance = 0; distance <= 300; distance += 10) {
            run.due(0, "lamp", distance, 1003 - 3 * distance);
        }
        for (int hour = 0; hour < 24; hour++) {
            run.due(100, "dim", hour, 90 - 3 * hour);
        }
        run.due(0, "road", 333);
    }

    static void full(Run run) {
        for (int piece = 0; piece < 12; piece++) {
            run.due(piece, "piece", 9 * piece, -piece, 600 - piece, 0, 500 + piece);
        }
        for (int house = 0; house < 20; house++) {
            run.due(house, "house", 7 * house, 40, 100 + house);
        }
        for (int wall = 0; wall < 8; wall++) {
            run.due(wall, "wall", 15 * wall, 10, 15 * wall + 9, 20, 30 * wall);
        }
    }

    /** One house and one piece at one point, and a wall through it that cuts nothing yet. */
    static void onePoint(Run run) {
        run.due(0, "piece", 4, 4, 900, 0, 0).due(0, "house", 4, 4, 1).due(0, "wall", 3, 3, 5, 5, 0);
    }

    /** The brightest lamps along the longest road: sums by far above what an int holds. */
    static void brightest(Run run) {
        for (int distance = 0; distance <= 300; distance += 10) {
            run.due(0, "lamp", distance, BRIGHTEST);
        }
        run.due(0, "road", 5000);
    }

    /**
     * Lights 100, 50 and 7 on forty decimetres. The rows by spacing: 10 has 157 207 214 207 157; 20 has 107 100 114 100
     * 107; 30 has 100 57 57 100 50; 40 has 100 50 14 50 100; a wider one has 100 50 7 0 0.
     */
    static void shortRoad(Run run) {
        run.due(0, "lamp", 0, 100).due(0, "lamp", 10, 50).due(0, "lamp", 20, 7).due(0, "road", 40);
    }
}

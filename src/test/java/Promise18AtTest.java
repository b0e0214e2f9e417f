/** Promise 18: the light at a place of the road 0 .. its length, by a spacing 10 .. 600, in an hour. BAD: none such. */
final class Promise18AtTest {
    public static void main(String[] args) {
        onePoleReach();
        severalPoles();
        dimmedLight();
        brightest();
        wrongNumbers();
        Run.end();
    }

    private static void onePoleReach() {
        Run run = new Run();
        run.due(0, "lamp", 300, 7).due(0, "lamp", 0, 2).due(0, "road", 599);
        run.due(2, "at", 0, 600, 0).due(0, "at", 290, 600, 0).due(6, "at", 299, 600, 0).due(7, "at", 300, 600, 0);
        run.due(0, "at", 301, 600, 0).due(0, "at", 599, 600, 0);
        run.due(599, "road", 600).due(14, "at", 300, 600, 0).due(6, "at", 301, 600, 0).due(6, "at", 299, 600, 0);
        run.due(2, "at", 600, 600, 0);
    }

    private static void severalPoles() {
        Run run = new Run();
        run.due(0, "lamp", 0, 1000).due(0, "lamp", 10, 500).due(0, "lamp", 20, 100).due(0, "road", 45);
        // Poles at 0, 15, 30, 45; a lamp gives 750 at 5, 300 at 15, 50 at 25, 650 at 7, 600 at 8, 80 at 22.
        run.due(1300, "at", 0, 15, 0).due(1300 + 300, "at", 15, 15, 0).due(750 + 500 + 50, "at", 5, 15, 0);
        run.due(1300, "at", 45, 15, 0).due(80 + 650 + 600, "at", 37, 15, 0);
        // The last pole stands at 44 of 45.
        run.due(950 + 70, "at", 45, 22, 0).due(1000 + 80 + 80, "at", 22, 22, 0);
        run.due(45, "road", 43).due(1000 + 80, "at", 22, 22, 0).due(90, "at", 43, 22, 0);
    }

    private static void dimmedLight() {
        Run run = new Run();
        run.due(0, "lamp", 0, 99).due(0, "lamp", 10, 99).due(0, "lamp", 20, 3).due(0, "road", 10);
        run.due(198, "at", 0, 10, 7).due(100, "dim", 7, 50).due(99, "at", 10, 10, 7).due(198, "at", 10, 10, 6);
        run.due(50, "dim", 7, 1).due(1, "at", 0, 10, 7).due(1, "dim", 7, 99).due(196, "at", 0, 10, 7);
        run.due(99, "dim", 7, 0).due(0, "at", 0, 10, 7).due(198, "at", 0, 10, 8).due(198, "at", 0, 10, 23);
    }

    private static void brightest() {
        Run run = new Run();
        for (int distance = 0; distance <= 300; distance += 10) {
            run.due(0, "lamp", distance, 100000);
        }
        run.due(0, "road", 5000).due(6100000, "at", 300, 10, 0).due(6100000, "at", 4700, 10, 0);
        run.due(3100000, "at", 0, 10, 0).due(3100000, "at", 5000, 10, 0).due(6000000, "at", 305, 10, 0);
        run.due(6000000, "at", 290, 10, 0).due(6000000, "at", 4710, 10, 0).due(6000000, "at", 4701, 10, 0);
        run.due(100, "dim", 0, 99).due(6039000, "at", 2500, 10, 0).due(6100000, "at", 2500, 10, 1);
    }

    private static void wrongNumbers() {
        Run run = new Run();
        run.due(0, "lamp", 0, 5).due(5, "at", 0, 10, 0).due(Run.BAD, "at", 1, 10, 0).due(0, "road", 100);
        run.due(0, "at", 99, 600, 23).due(5, "at", 0, 600, 0).due(5, "at", 100, 10, 0);
        for (int place : new int[] {-1, 101, Integer.MIN_VALUE, Integer.MAX_VALUE}) {
            run.due(Run.BAD, "at", place, 10, 0);
        }
        for (int spacing : new int[] {-10, 0, 9, 601, Integer.MIN_VALUE, Integer.MAX_VALUE}) {
            run.due(Run.BAD, "at", 0, spacing, 0);
        }
        for (int hour : new int[] {-1, 24, Integer.MIN_VALUE, Integer.MAX_VALUE}) {
            run.due(Run.BAD, "at", 0, 10, hour);
        }
    }
}

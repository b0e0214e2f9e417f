/** The boundary cases of the document's terms of lamps, each with a test of its own. */
final class SentencesOfLamps {
    private static final int BAD = Run.BAD;

    private SentencesOfLamps() {
    }

    static void look() {
        lamps();
        rows();
        hoursAndWire();
    }

    private static void of(String words, Runnable test) {
        Boundary.sentence("Terms", words, test);
    }

    private static void lamps() {
        of("A LAMP gives light at distances 0, 10, .. 300 decimetres", SentencesOfLamps::toldDistances);
        of("(0 .. 100,000 each, 0 at first)", SentencesOfLamps::leastAndMostLight);
        of("between, on the straight line between both, cut off", SentencesOfLamps::betweenTwoDistances);
        of("nothing beyond 300", SentencesOfLamps::nothingBeyond);
    }

    private static void rows() {
        of("poles stand at 0, s, 2 s, .. up to l", SentencesOfLamps::lastPole);
        of("it is looked at at places 0, 10, 20, .. up to l", SentencesOfLamps::lastPlace);
        of("the LEAST of these", SentencesOfLamps::leastOfAll);
        of("their MEAN (sum by number, cut off)", SentencesOfLamps::meanIsCutOff);
        of("the EVENNESS (the least times 1,000 by the mean, cut off", SentencesOfLamps::evennessIsCutOff);
        of("0 if that is 0)", SentencesOfLamps::evennessOfTheDark);
    }

    private static void hoursAndWire() {
        of("In each HOUR 0 .. 23 lamps are DIMMED", SentencesOfLamps::firstAndLastHour);
        of("to so many hundredths (100 at first)", SentencesOfLamps::hundredthsAtFirst);
        of("each place then has its light times that, by 100, cut off", SentencesOfLamps::placeIsCutOff);
        of("THE WIRE goes along the row from the pole at 0", SentencesOfLamps::onePoleDropsNothing);
        of("the same CURRENT (milliamperes, 0 .. 20,000)", SentencesOfLamps::leastAndMostCurrent);
        of("the same RESIST (microohms, 0 .. 10,000)", SentencesOfLamps::leastAndMostResist);
        of("what is dropped up to the last pole, in all, by 1,000,000, cut off", SentencesOfLamps::droppedInAll);
    }

    private static void toldDistances() {
        Boundary.bounds(0, 0, 300, 0, "lamp", 150, 9);
        for (int distance = 1; distance < 300; distance++) {
            if (distance % 10 != 0) {
                Boundary.refused(Town::small, "lamp", distance, 5);
            }
        }
        for (int wrong : new int[] {-10, -300, 310, 305, 3000, 1 << 16, 10 << 16, -10 << 16, 2147483640, -2147483640}) {
            Boundary.refused(Town::small, "lamp", wrong, 5);
        }
        Run run = new Run();
        for (int distance = 0; distance <= 300; distance += 10) {
            run.due(0, "lamp", distance, distance + 1).due(distance / 10 + 1, "count", 4);
        }
        for (int distance = 0; distance <= 300; distance += 10) {
            run.due(distance + 1, "shines", distance);
        }
    }

    private static void leastAndMostLight() {
        for (int distance = 0; distance <= 300; distance += 100) {
            Boundary.bounds(0, 0, 100000, 1, "lamp", distance, 9);
        }
        Run run = new Run();
        for (int distance = 0; distance <= 300; distance += 10) {
            run.due(0, "shines", distance).due(0, "lamp", distance, 100000).due(100000, "shines", distance);
        }
        run.due(100000, "shines", 5).due(100000, "shines", 299).due(31, "count", 4);
        for (int distance = 0; distance <= 300; distance += 10) {
            run.due(100000, "lamp", distance, 0).due(0, "shines", distance);
        }
        run.due(0, "shines", 5).due(0, "shines", 299).due(0, "count", 4);
    }

    private static void betweenTwoDistances() {
        int[] rising = {0, 0, 0, 0, 1, 1, 1, 2, 2, 2, 3};
        int[] falling = {3, 2, 2, 2, 1, 1, 1, 0, 0, 0, 0};
        Run run = new Run();
        run.due(0, "lamp", 10, 3).due(0, "lamp", 200, 100000).due(0, "lamp", 210, 99999);
        for (int beyond = 0; beyond <= 10; beyond++) {
            run.due(rising[beyond], "shines", beyond).due(falling[beyond], "shines", 10 + beyond);
        }
        run.due(100000, "shines", 200).due(99999, "shines", 201).due(99999, "shines", 209).due(99999, "shines", 210);
        run.due(10000, "shines", 191).due(90000, "shines", 199).due(89999, "shines", 211).due(9999, "shines", 219);
    }

    private static void nothingBeyond() {
        Run run = new Run();
        run.due(0, "lamp", 300, 100000).due(100000, "shines", 300).due(90000, "shines", 299);
        for (int distance : new int[] {301, 302, 309, 310, 600, 1 << 16, (1 << 16) + 300, Integer.MAX_VALUE}) {
            run.due(0, "shines", distance);
        }
        run.due(0, "road", 599).due(100000, "at", 300, 600, 0).due(0, "at", 301, 600, 0).due(0, "at", 599, 600, 0);
        run.due(599, "road", 600).due(200000, "at", 300, 600, 0).due(90000, "at", 301, 600, 0).due(90000, "at", 299, 600, 0);
        // The pole at 20 is 300 away from the place 320; the one at 0 is too far.
        run.due(600, "road", 320).due(100000, "at", 320, 20, 0).due(90000, "at", 319, 20, 0);
    }

    private static void lastPole() {
        for (int spacing : new int[] {10, 11, 37, 599, 600}) {
            Run run = new Run();
            run.due(0, "lamp", 0, 9).due(1, "row", spacing, 3);
            for (int poles = 2; poles <= 5; poles++) {
                int last = (poles - 1) * spacing;
                run.answer("road", last - 1);
                run.due(poles - 1, "row", spacing, 3).due(0, "at", last - 1, spacing, 0);
                run.answer("road", last);
                run.due(poles, "row", spacing, 3).due(9, "at", last, spacing, 0).due(9, "at", 0, spacing, 0);
            }
        }
        Run longest = new Run();
        longest.due(0, "road", 5000).due(501, "row", 10, 3).due(9, "row", 600, 3);
        longest.due(5000, "road", 4999).due(500, "row", 10, 3).due(4999, "road", 4800).due(9, "row", 600, 3);
        longest.due(4800, "road", 4799).due(8, "row", 600, 3);
    }

    private static void lastPlace() {
        Run run = new Run();
        run.due(0, "lamp", 0, 100).due(0, "lamp", 10, 50);
        run.due(100, "row", 600, 0).due(100, "row", 600, 1);
        run.due(0, "road", 9).due(100, "row", 600, 0).due(100, "row", 600, 1);
        run.due(9, "road", 10).due(50, "row", 600, 0).due(75, "row", 600, 1);
        run.due(10, "road", 19).due(50, "row", 600, 0).due(75, "row", 600, 1);
        run.due(19, "road", 20).due(0, "row", 600, 0).due(50, "row", 600, 1);
        run.due(20, "road", 599).due(2, "row", 600, 1);
        // 61 places, and the last one has a pole.
        run.due(599, "road", 600).due(300 / 61, "row", 600, 1);
    }

    private static void leastOfAll() {
        Run first = new Run();
        first.due(0, "lamp", 10, 5).due(0, "road", 10).due(0, "row", 600, 0).due(10, "road", 0).due(0, "row", 600, 0);
        Run last = new Run();
        last.due(0, "lamp", 0, 5).due(5, "row", 600, 0).due(0, "road", 10).due(0, "row", 600, 0);
        Run middle = new Run();
        Town.shortRoad(middle);
        middle.due(14, "row", 40, 0).due(100, "row", 20, 0).due(157, "row", 10, 0);
        Run brightest = new Run();
        Town.brightest(brightest);
        brightest.due(3100000, "row", 10, 0);
    }

    private static void meanIsCutOff() {
        Run run = new Run();
        run.due(0, "lamp", 0, 2).due(2, "row", 600, 1).due(0, "road", 20).due(0, "row", 600, 1);
        run.due(2, "lamp", 0, 3).due(1, "row", 600, 1).due(3, "lamp", 0, 5).due(1, "row", 600, 1);
        run.due(5, "lamp", 0, 6).due(2, "row", 600, 1);
        // 501 places with 61 poles in reach, but for 30 + 29 + .. + 1 at both ends: 2,963,100,000 in all.
        Run brightest = new Run();
        Town.brightest(brightest);
        brightest.due(5914371, "row", 10, 1).due(0, "dark", 10, 5914371).due(24, "dark", 10, 5914372);
        brightest.due(10, "spacing", 5914371, 0).due(BAD, "spacing", 5914372, 0);
    }

    private static void evennessIsCutOff() {
        Run run = new Run();
        Town.shortRoad(run);
        // 157 by 188, 100 by 105, 50 by 72, 14 by 62.
        run.due(835, "row", 10, 2).due(952, "row", 20, 2).due(694, "row", 30, 2).due(225, "row", 40, 2);
        run.due(40, "road", 0).due(1000, "row", 40, 2);
        // 3,100,000 times 1,000 is more than an int holds.
        Run brightest = new Run();
        Town.brightest(brightest);
        brightest.due(524, "row", 10, 2).due(10, "spacing", 5914371, 524).due(BAD, "spacing", 5914371, 525);
        // With 600 all places have 100,000, but for eight in the middle of two poles.
        brightest.due(984, "row", 600, 2).due(600, "spacing", 0, 984).due(5000, "road", 300).due(1000, "row", 600, 2);
    }

    private static void evennessOfTheDark() {
        Run run = new Run();
        run.due(0, "row", 10, 2).due(0, "row", 600, 2).due(0, "road", 5000).due(0, "row", 10, 2).due(0, "row", 600, 2);
        run.due(600, "spacing", 0, 0).due(BAD, "spacing", 0, 1);
        // There is light, but the mean is cut off to 0.
        run.due(0, "lamp", 0, 1).due(0, "row", 600, 1).due(0, "row", 600, 2).due(0, "row", 20, 1).due(0, "row", 20, 2);
        run.due(1, "row", 10, 1).due(1000, "row", 10, 2);
    }

    private static void firstAndLastHour() {
        Boundary.bounds(100, 0, 23, 0, "dim", 5, 50);
        for (int hour : Boundary.outside(0, 23)) {
            Boundary.refused(Town::small, "at", 0, 10, hour);
        }
        Run run = new Run();
        run.due(0, "lamp", 0, 1000).due(100, "dim", 0, 10).due(100, "dim", 23, 20);
        run.due(100, "at", 0, 10, 0).due(1000, "at", 0, 10, 1).due(1000, "at", 0, 10, 22).due(200, "at", 0, 10, 23);
        run.due(2, "dark", 10, 201).due(1, "dark", 10, 200).due(1, "dark", 10, 101).due(0, "dark", 10, 100);
    }

    private static void hundredthsAtFirst() {
        Boundary.bounds(100, 0, 100, 1, "dim", 0, 50);
        Boundary.bounds(100, 0, 100, 1, "dim", 23, 50);
        Run run = new Run();
        run.due(0, "lamp", 0, 777);
        for (int hour = 0; hour < 24; hour++) {
            run.due(777, "at", 0, 10, hour).due(hour, "dark", 10, 777).due(100, "dim", hour, 0);
            run.due(0, "at", 0, 10, hour).due(hour + 1, "dark", 10, 777).due(24, "dark", 10, 778);
        }
    }

    private static void placeIsCutOff() {
        Run run = new Run();
        run.due(0, "lamp", 0, 1).due(0, "lamp", 10, 1).due(0, "road", 10).due(2, "at", 0, 10, 6);
        // Two lamps' light together, not each by itself.
        run.due(100, "dim", 6, 50).due(1, "at", 0, 10, 6).due(50, "dim", 6, 49).due(0, "at", 0, 10, 6);
        run.due(49, "dim", 6, 99).due(1, "at", 10, 10, 6).due(99, "dim", 6, 100).due(2, "at", 10, 10, 6);
        // A half of 5, 1 and 0 is 2, 0 and 0, whose mean is 0; a half of the mean would be 1.
        run.due(1, "lamp", 0, 5).due(10, "road", 20).due(100, "dim", 6, 50).due(2, "row", 600, 1);
        run.due(0, "dark", 600, 0).due(1, "dark", 600, 1).due(1, "dark", 600, 2).due(24, "dark", 600, 3);
        run.due(5, "lamp", 0, 6).due(1, "dark", 600, 2).due(0, "dark", 600, 1);
        Run brightest = new Run();
        Town.brightest(brightest);
        brightest.due(100, "dim", 1, 99).due(6039000, "at", 2500, 10, 1).due(6100000, "at", 2500, 10, 2);
    }

    private static void onePoleDropsNothing() {
        Run run = new Run();
        run.due(0, "drop", 10, 20000, 10000).due(600, "wired", 20000, 10000, 0);
        run.due(0, "road", 599).due(0, "drop", 600, 20000, 10000).due(600, "wired", 20000, 10000, 0);
        run.due(599, "road", 600).due(120000, "drop", 600, 20000, 10000).due(600, "wired", 20000, 10000, 120000);
        run.due(600, "road", 299).due(0, "drop", 300, 20000, 10000).due(299, "road", 300).due(60000, "drop", 300, 20000, 10000);
    }

    private static void leastAndMostCurrent() {
        Boundary.bounds(0, 0, 20000, 1, "drop", 10, 5, 5);
        Boundary.bounds(600, 0, 20000, 0, "wired", 5, 5, 5);
        Run run = new Run();
        run.due(0, "road", 600).due(0, "drop", 600, 0, 10000).due(6, "drop", 600, 1, 10000).due(119994, "drop", 600, 19999, 10000);
        run.due(120000, "drop", 600, 20000, 10000).due(600, "wired", 0, 10000, 0);
    }

    private static void leastAndMostResist() {
        Boundary.bounds(0, 0, 10000, 2, "drop", 10, 5, 5);
        Boundary.bounds(600, 0, 10000, 1, "wired", 5, 5, 5);
        Run run = new Run();
        run.due(0, "road", 600).due(0, "drop", 600, 20000, 0).due(12, "drop", 600, 20000, 1).due(119988, "drop", 600, 20000, 9999);
        run.due(120000, "drop", 600, 20000, 10000).due(600, "wired", 20000, 0, 0);
    }

    private static void droppedInAll() {
        // 2 and 1 currents on a hundred decimetres: 666,800 and 333,400 are one millivolt together.
        Run run = new Run();
        run.due(0, "road", 200).due(0, "drop", 100, 1, 3333).due(1, "drop", 100, 1, 3334).due(1, "drop", 100, 1, 6666);
        run.due(2, "drop", 100, 1, 6667).due(200, "road", 299).due(1, "drop", 100, 1, 3334).due(299, "road", 300);
        run.due(2, "drop", 100, 1, 3334);
        Run longest = new Run();
        longest.due(0, "road", 5000).due(250500000, "drop", 10, 20000, 10000).due(4320000, "drop", 600, 20000, 10000);
        longest.due(600, "wired", 20000, 10000, 4320000).due(600, "wired", 20000, 10000, Integer.MAX_VALUE);
    }
}

/** The boundary cases that promises 14 to 24 name, each with a test of its own. */
final class SentencesOfLampCalls {
    private static final int BAD = Run.BAD;
    private static final int LEAST = Integer.MIN_VALUE;
    private static final int MOST = Integer.MAX_VALUE;

    private SentencesOfLampCalls() {
    }

    static void look() {
        telling();
        lightOfRows();
        widest();
        darkAndWire();
        counting();
    }

    private static void of(int promise, String words, Runnable test) {
        Boundary.sentence("Promise " + promise, words, test);
    }

    private static void telling() {
        of(14, "The light at a distance 0, 10, .. 300: what it was.", SentencesOfLampCalls::lightBefore);
        of(14, "BAD: none such.", SentencesOfLampCalls::noSuchLamp);
        of(15, "at a distance, 0 or more.", SentencesOfLampCalls::anyDistance);
        of(15, "BAD: below 0.", () -> Boundary.refusedOutside(Town::small, 0, MOST, 0, "shines", 5));
        of(16, "0 .. 5,000: what it was.", SentencesOfLampCalls::lengthBefore);
        of(16, "BAD: none such.", () -> Boundary.refusedOutside(Town::small, 0, 5000, 0, "road", 5));
        of(17, "0 .. 100: what it was.", SentencesOfLampCalls::hundredthsBefore);
        of(17, "BAD: none such.", SentencesOfLampCalls::noSuchDim);
    }

    private static void lightOfRows() {
        of(18, "a place of the road 0 .. its length", SentencesOfLampCalls::firstAndLastPlace);
        of(18, "by a spacing 10 .. 600", SentencesOfLampCalls::narrowestAndWidestAt);
        of(18, "BAD: none such.", SentencesOfLampCalls::noSuchPlace);
        of(19, "with a spacing 10 .. 600", SentencesOfLampCalls::narrowestAndWidestRow);
        of(19, "not dimmed", SentencesOfLampCalls::rowIsNotDimmed);
        of(19, "0 its least, 1 its mean, 2 its evenness, 3 how many poles.", SentencesOfLampCalls::fourAnswers);
        of(19, "BAD: none such.", SentencesOfLampCalls::noSuchRow);
    }

    private static void widest() {
        of(20, "The widest spacing of 10, 20, .. 600", SentencesOfLampCalls::widestAndNarrowest);
        of(20, "the mean is at least so much, and the evenness, too", SentencesOfLampCalls::atLeastBoth);
        of(20, "BAD: there is none.", SentencesOfLampCalls::noSpacing);
    }

    private static void darkAndWire() {
        of(21, "dimmed as told", SentencesOfLampCalls::noHourOrAllHours);
        of(21, "is below so much", SentencesOfLampCalls::belowSoMuch);
        of(21, "BAD: no such spacing.", SentencesOfLampCalls::noSuchDarkSpacing);
        of(22, "BAD: none such.", SentencesOfLampCalls::noSuchDrop);
        of(23, "The greatest spacing of 10, 20, .. 600", SentencesOfLampCalls::greatestAndLeastWired);
        of(23, "at most so many millivolts", SentencesOfLampCalls::atMostSoMany);
        of(23, "BAD: none such numbers", SentencesOfLampCalls::noSuchWire);
        of(23, "there is none.", SentencesOfLampCalls::noSpacingWired);
    }

    private static void counting() {
        of(24, "0 pieces, 1 houses, 2 walls, 3 all people,", SentencesOfLampCalls::countsOfNoise);
        of(24, "4 distances for which there is light (above 0)", SentencesOfLampCalls::countsOfLight);
        of(24, "5 the length.", SentencesOfLampCalls::countsOfLength);
        of(24, "BAD: another number.", () -> Boundary.refusedOutside(Town::small, 0, 5, 0, "count", 0));
    }

    private static void lightBefore() {
        Run run = new Run();
        for (int distance = 0; distance <= 300; distance += 10) {
            run.due(0, "lamp", distance, 100000).due(BAD, "lamp", distance, 100001).due(100000, "lamp", distance, distance);
            run.due(BAD, "lamp", distance, -1).due(distance, "lamp", distance, 0).due(0, "lamp", distance, 0);
        }
    }

    private static void noSuchLamp() {
        Boundary.refusedOutside(Town::small, 0, 300, 0, "lamp", 0, 5);
        for (int distance : new int[] {0, 10, 290, 300}) {
            Boundary.refusedOutside(Town::small, 0, 100000, 1, "lamp", distance, 5);
        }
        for (int distance : new int[] {1, 9, 11, 299, 301, 310, -10}) {
            Boundary.refused(Town::small, "lamp", distance, 0);
        }
    }

    private static void anyDistance() {
        Run run = new Run();
        run.due(0, "lamp", 0, 9).due(0, "lamp", 300, 8).due(9, "shines", 0).due(8, "shines", 300);
        run.due(0, "shines", 301).due(0, "shines", MOST).due(0, "shines", MOST - 1).due(0, "shines", 1 << 16);
    }

    private static void lengthBefore() {
        Run run = new Run();
        run.due(0, "road", 5000).due(BAD, "road", 5001).due(5000, "road", 0).due(BAD, "road", -1).due(0, "road", 1);
        run.due(1, "road", 4999).due(4999, "road", 4999).due(4999, "count", 5);
    }

    private static void hundredthsBefore() {
        Run run = new Run();
        for (int hour = 0; hour < 24; hour++) {
            run.due(100, "dim", hour, 0).due(BAD, "dim", hour, 101).due(0, "dim", hour, 100).due(BAD, "dim", hour, -1);
            run.due(100, "dim", hour, hour).due(hour, "dim", hour, hour);
        }
    }

    private static void noSuchDim() {
        Boundary.refusedOutside(Town::small, 0, 23, 0, "dim", 0, 5);
        for (int hour : new int[] {0, 1, 22, 23}) {
            Boundary.refusedOutside(Town::small, 0, 100, 1, "dim", hour, 5);
        }
    }

    private static void firstAndLastPlace() {
        Run run = new Run();
        run.due(0, "lamp", 0, 10).due(10, "at", 0, 10, 0).due(BAD, "at", 1, 10, 0).due(BAD, "at", -1, 10, 0);
        run.due(0, "road", 5000).due(10, "at", 0, 10, 0).due(10, "at", 5000, 10, 0).due(BAD, "at", 5001, 10, 0);
        // 2,995 is in the middle of two poles, 4,999 nine from one and one from the other.
        run.due(10, "at", 2995, 10, 0).due(10, "at", 4999, 10, 0).due(0, "at", 4999, 600, 0);
        run.due(5000, "road", 15).due(5, "at", 15, 10, 23).due(BAD, "at", 16, 10, 23).due(0, "at", 15, 600, 0);
    }

    private static void narrowestAndWidestAt() {
        Run run = new Run();
        run.due(0, "lamp", 0, 10).due(0, "road", 600).due(10, "at", 10, 10, 0).due(9, "at", 10, 11, 0);
        run.due(10, "at", 600, 600, 0).due(9, "at", 600, 599, 0).due(BAD, "at", 600, 601, 0).due(BAD, "at", 9, 9, 0);
    }

    private static void noSuchPlace() {
        Boundary.refusedOutside(Town::small, 0, 333, 0, "at", 0, 10, 0);
        Boundary.refusedOutside(Town::small, 10, 600, 1, "at", 0, 10, 0);
        Boundary.refusedOutside(Town::small, 0, 23, 2, "at", 0, 10, 0);
        Boundary.refused(Town::small, "at", 0, 0, 0);
        Boundary.refused(Town::small, "at", 0, -10, 0);
    }

    private static void narrowestAndWidestRow() {
        Run run = new Run();
        Town.shortRoad(run);
        int[][] due = {{157, 188, 835, 5}, {50, 72, 694, 2}, {0, 31, 0, 1}};
        int[] spacings = {10, 30, 600};
        for (int i = 0; i < spacings.length; i++) {
            for (int what = 0; what <= 3; what++) {
                run.due(due[i][what], "row", spacings[i], what);
                run.due(BAD, "row", 9, what).due(BAD, "row", 601, what).due(BAD, "row", 0, what);
            }
        }
    }

    private static void rowIsNotDimmed() {
        Run run = new Run();
        Town.shortRoad(run);
        for (int hour = 0; hour < 24; hour++) {
            run.due(100, "dim", hour, 0);
        }
        run.due(157, "row", 10, 0).due(188, "row", 10, 1).due(835, "row", 10, 2).due(5, "row", 10, 3);
        run.due(10, "spacing", 188, 835).due(24, "dark", 10, 1).due(0, "at", 0, 10, 0).due(100, "shines", 0);
    }

    private static void fourAnswers() {
        Run run = new Run();
        Town.shortRoad(run);
        run.due(100, "row", 20, 0).due(105, "row", 20, 1).due(952, "row", 20, 2).due(3, "row", 20, 3);
        run.due(BAD, "row", 20, -1).due(BAD, "row", 20, 4);
    }

    private static void noSuchRow() {
        for (int what = 0; what <= 3; what++) {
            Boundary.refusedOutside(Town::small, 10, 600, 0, "row", 10, what);
            Boundary.refused(Town::small, "row", 0, what);
            Boundary.refused(Town::small, "row", -10, what);
        }
        Boundary.refusedOutside(Town::small, 0, 3, 1, "row", 10, 0);
    }

    private static void widestAndNarrowest() {
        Run run = new Run();
        Town.shortRoad(run);
        run.due(600, "spacing", 31, 0).due(10, "spacing", 188, 835).due(10, "spacing", 106, 0).due(20, "spacing", 105, 0);
        // Sixty places: with 600 there is one pole, with 590 one more at the end.
        Run longer = new Run();
        longer.due(0, "lamp", 0, 60).due(0, "road", 590).due(590, "spacing", 2, 0).due(600, "spacing", 1, 0);
        longer.due(590, "road", 600).due(600, "spacing", 1, 0).due(300, "spacing", 2, 0);
    }

    private static void atLeastBoth() {
        Run run = new Run();
        Town.shortRoad(run);
        run.due(40, "spacing", 62, 225).due(30, "spacing", 63, 225).due(30, "spacing", 62, 226).due(30, "spacing", 72, 694);
        run.due(20, "spacing", 73, 694).due(20, "spacing", 72, 695).due(20, "spacing", 105, 952).due(10, "spacing", 106, 835);
        run.due(600, "spacing", 0, 0).due(600, "spacing", -1, -1).due(600, "spacing", LEAST, LEAST);
        run.due(40, "spacing", LEAST, 1).due(40, "spacing", 32, LEAST);
    }

    private static void noSpacing() {
        Run run = new Run();
        run.due(BAD, "spacing", 1, 0).due(BAD, "spacing", 0, 1).due(BAD, "spacing", MOST, MOST).due(600, "spacing", 0, 0);
        for (int[] asked : new int[][] {{189, 0}, {106, 836}, {0, 953}, {MOST, 0}, {0, MOST}, {MOST, LEAST}, {LEAST, MOST}}) {
            Boundary.refused(Town::shortRoad, "spacing", asked);
        }
        Run one = new Run();
        one.due(0, "lamp", 0, 9).due(600, "spacing", 9, 1000).due(BAD, "spacing", 10, 1000).due(BAD, "spacing", 9, 1001);
    }

    private static void noHourOrAllHours() {
        Run run = new Run();
        run.due(0, "lamp", 0, 100).due(0, "dark", 10, 100).due(24, "dark", 10, 101).due(24, "dark", 600, 101);
        for (int hour = 0; hour < 24; hour++) {
            run.due(100, "dim", hour, 99).due(hour + 1, "dark", 10, 100);
        }
        run.due(24, "dark", 600, 100).due(0, "dark", 600, 99).due(99, "dim", 23, 100).due(23, "dark", 10, 100);
    }

    private static void belowSoMuch() {
        Run run = new Run();
        run.due(0, "dark", 10, 0).due(24, "dark", 10, 1).due(0, "dark", 10, LEAST).due(24, "dark", 10, MOST);
        run.due(0, "lamp", 0, 100).due(100, "dim", 5, 40);
        run.due(0, "dark", 10, 40).due(1, "dark", 10, 41).due(1, "dark", 10, 100).due(24, "dark", 10, 101);
        run.due(0, "dark", 10, -1).due(0, "dark", 10, LEAST).due(24, "dark", 10, MOST);
    }

    private static void noSuchDarkSpacing() {
        for (int mean : new int[] {0, 300, MOST}) {
            Boundary.refusedOutside(Town::small, 10, 600, 0, "dark", 10, mean);
            Boundary.refused(Town::small, "dark", 0, mean);
            Boundary.refused(Town::small, "dark", -10, mean);
        }
    }

    private static void noSuchDrop() {
        Boundary.refusedOutside(Town::small, 10, 600, 0, "drop", 80, 5, 5);
        Boundary.refusedOutside(Town::small, 0, 20000, 1, "drop", 80, 5, 5);
        Boundary.refusedOutside(Town::small, 0, 10000, 2, "drop", 80, 5, 5);
        Boundary.refused(Town::small, "drop", 0, 5, 5);
        Boundary.refused(Town::small, "drop", 80, -1, 0);
        Boundary.refused(Town::small, "drop", 80, 0, -1);
    }

    private static void greatestAndLeastWired() {
        Run run = new Run();
        run.due(600, "wired", 20000, 10000, 0).due(0, "road", 600).due(600, "wired", 1000, 1000, 600);
        run.due(590, "wired", 1000, 1000, 599).due(590, "wired", 1000, 1000, 590).due(580, "wired", 1000, 1000, 589);
        run.due(600, "road", 9).due(600, "wired", 20000, 10000, 0);
        // On nineteen decimetres only the narrowest spacing drops anything.
        run.due(9, "road", 19).due(2000, "drop", 10, 20000, 10000).due(600, "wired", 20000, 10000, 0);
    }

    private static void atMostSoMany() {
        Run run = new Run();
        run.due(0, "road", 600).due(310, "wired", 1000, 1000, 310).due(600, "wired", 1000, 1000, MOST);
        run.due(120000, "drop", 600, 20000, 10000).due(600, "wired", 20000, 10000, 120000);
        run.due(590, "wired", 20000, 10000, 119999).due(600, "wired", 0, 10000, 0).due(600, "wired", 20000, 0, 0);
        run.due(BAD, "wired", 0, 0, -1).due(BAD, "wired", 0, 0, LEAST);
        // As it is told, cut off: 600 drops 1.2 millivolts, 500 one, 490 less.
        run.due(1, "drop", 600, 2, 1000).due(600, "wired", 2, 1000, 1).due(490, "wired", 2, 1000, 0);
    }

    private static void noSuchWire() {
        for (int most : new int[] {0, 100000, MOST}) {
            Boundary.refusedOutside(Town::small, 0, 20000, 0, "wired", 5, 5, most);
            Boundary.refusedOutside(Town::small, 0, 10000, 1, "wired", 5, 5, most);
        }
    }

    private static void noSpacingWired() {
        Boundary.refused(Town::small, "wired", 0, 0, -1);
        Boundary.refused(Town::small, "wired", 20000, 10000, LEAST);
        Run run = new Run();
        run.due(0, "road", 5000).due(4320000, "drop", 600, 20000, 10000).due(BAD, "wired", 20000, 10000, 4000000);
        run.due(BAD, "wired", 20000, 10000, 0).due(5000, "road", 600).due(BAD, "wired", 1000, 1000, 309);
        run.due(310, "wired", 1000, 1000, 310);
    }

    private static void countsOfNoise() {
        Run run = new Run();
        for (int what = 0; what <= 3; what++) {
            run.due(0, "count", what);
        }
        Town.full(run);
        run.due(12, "count", 0).due(20, "count", 1).due(8, "count", 2).due(2190, "count", 3);
        run.due(BAD, "piece", 0, 0, 0, 0, 0).due(BAD, "house", 0, 0, 9).due(BAD, "wall", 0, 0, 0, 1, 0);
        run.due(12, "count", 0).due(20, "count", 1).due(8, "count", 2).due(2190, "count", 3);
    }

    private static void countsOfLight() {
        Run run = new Run();
        run.due(0, "count", 4).due(0, "lamp", 0, 1).due(1, "count", 4).due(0, "lamp", 300, 1).due(2, "count", 4);
        run.due(0, "lamp", 150, 0).due(2, "count", 4).due(BAD, "lamp", 155, 5).due(2, "count", 4);
        run.due(1, "lamp", 0, 100000).due(2, "count", 4).due(100000, "lamp", 0, 0).due(1, "count", 4);
        for (int distance = 0; distance <= 300; distance += 10) {
            run.answer("lamp", distance, 1);
        }
        run.due(31, "count", 4);
    }

    private static void countsOfLength() {
        Run run = new Run();
        run.due(0, "count", 5).due(0, "road", 5000).due(5000, "count", 5).due(BAD, "road", 5001).due(5000, "count", 5);
        run.due(5000, "road", 0).due(0, "count", 5).due(BAD, "road", -1).due(0, "count", 5);
    }
}

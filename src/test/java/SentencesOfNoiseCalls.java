/** The boundary cases that promises 1 to 13 name, each with a test of its own. */
final class SentencesOfNoiseCalls {
    private static final int BAD = Run.BAD;
    private static final int LEAST = Integer.MIN_VALUE;
    private static final int MOST = Integer.MAX_VALUE;

    private SentencesOfNoiseCalls() {
    }

    static void look() {
        telling();
        changing();
        asking();
        needing();
    }

    private static void of(int promise, String words, Runnable test) {
        Boundary.sentence("Promise " + promise, words, test);
    }

    private static void telling() {
        of(1, "No pieces, houses, walls", SentencesOfNoiseCalls::newObjectWithoutNoise);
        of(1, "lamps without light, length 0.", SentencesOfNoiseCalls::newObjectWithoutLight);
        of(2, "BAD: none such", SentencesOfNoiseCalls::noSuchPiece);
        of(2, "there are 12.", SentencesOfNoiseCalls::thirteenthPiece);
        of(3, "BAD: none such", SentencesOfNoiseCalls::noSuchHouse);
        of(3, "there are 20.", SentencesOfNoiseCalls::twentyFirstHouse);
        of(4, "BAD: none such", SentencesOfNoiseCalls::noSuchWall);
        of(4, "both ends are one", SentencesOfNoiseCalls::wallOfOnePoint);
        of(4, "there are 8.", SentencesOfNoiseCalls::ninthWall);
    }

    private static void changing() {
        of(5, "FALL, 0 .. 60: what it was.", () -> whatItWas(30, 60, "fall"));
        of(5, "BAD: none such.", () -> Boundary.refusedOutside(Town::small, 0, 60, 0, "fall", 5));
        of(6, "BAD: none such.", SentencesOfNoiseCalls::noSuchMalus);
        of(13, "0 .. 300: what it was.", SentencesOfNoiseCalls::cutBefore);
        of(13, "BAD: none such.", SentencesOfNoiseCalls::noSuchRecut);
    }

    private static void asking() {
        of(7, "BAD: none such.", SentencesOfNoiseCalls::noSuchGift);
        of(8, "0 .. 2, or (3)", SentencesOfNoiseCalls::levelsByPart);
        of(8, "BAD: none such.", SentencesOfNoiseCalls::noSuchLevel);
        of(9, "above a limit", SentencesOfNoiseCalls::aboveLimit);
        of(10, "of several the first one", SentencesOfNoiseCalls::firstOfLoudest);
        of(10, "BAD: none such", SentencesOfNoiseCalls::noSuchLoudest);
        of(10, "none gives more than 0.", SentencesOfNoiseCalls::nothingIsLoudest);
        of(11, "the loudest first, of equal ones the first", SentencesOfNoiseCalls::rankOfEqualOnes);
        of(11, "BAD: none such.", SentencesOfNoiseCalls::noSuchRank);
    }

    private static void needing() {
        of(12, "The least cut of a wall, 0, 5, .. 300", SentencesOfNoiseCalls::cutsInSteps);
        of(12, "with which no house's all-day level is above a limit", SentencesOfNoiseCalls::noneAboveLimit);
        of(12, "(the wall's cut stays)", SentencesOfNoiseCalls::cutStays);
        of(12, "BAD: none such", SentencesOfNoiseCalls::noSuchNeed);
        of(12, "none of these is enough.", SentencesOfNoiseCalls::noCutIsEnough);
    }

    private static void newObjectWithoutNoise() {
        Run run = new Run();
        run.due(0, "count", 0).due(0, "count", 1).due(0, "count", 2).due(0, "count", 3);
        run.due(BAD, "gives", 0, 0, 0).due(BAD, "loudest", 0, 0).due(BAD, "ranked", 0).due(0, "people", -1);
        for (int part = 0; part <= 3; part++) {
            run.due(BAD, "level", 0, part);
        }
        run.due(BAD, "needed", 0, 9999).due(BAD, "recut", 0, 5);
        run.due(0, "piece", 0, 0, 9, 9, 9).due(BAD, "gives", 0, 0, 0).due(0, "house", 0, 0, 1).due(9, "gives", 0, 0, 0);
    }

    private static void newObjectWithoutLight() {
        Run run = new Run();
        run.due(0, "count", 4).due(0, "count", 5).due(1, "row", 10, 3).due(0, "row", 10, 0).due(0, "row", 10, 1);
        for (int distance = 0; distance <= 301; distance++) {
            run.due(0, "shines", distance);
        }
        for (int hour = 0; hour < 24; hour++) {
            run.due(0, "at", 0, 10, hour).due(BAD, "at", 1, 10, hour);
        }
        run.due(0, "road", 0);
    }

    private static void noSuchPiece() {
        for (int place = 0; place < 5; place++) {
            int least = place < 2 ? -5000 : 0;
            int most = place < 2 ? 5000 : 1200;
            Boundary.refusedOutside(Town::small, least, most, place, "piece", 10, 20, 700, 800, 900);
        }
    }

    private static void thirteenthPiece() {
        Boundary.refused(Town::full, "piece", 10, 20, 700, 800, 900);
        Boundary.refused(Town::full, "piece", 0, 0, 0, 0, 0);
        // What is refused doesn't count.
        Run run = new Run();
        for (int piece = 0; piece < 12; piece++) {
            run.due(BAD, "piece", 5001, 0, 0, 0, 0).due(BAD, "piece", 0, 0, 0, 0, 1201).due(piece, "piece", 0, 0, 0, 0, 0);
        }
        run.due(BAD, "piece", 0, 0, 0, 0, 0).due(12, "count", 0);
    }

    private static void noSuchHouse() {
        for (int place = 0; place < 3; place++) {
            int least = place < 2 ? -5000 : 0;
            int most = place < 2 ? 5000 : 1000;
            Boundary.refusedOutside(Town::small, least, most, place, "house", 10, 20, 700);
        }
    }

    private static void twentyFirstHouse() {
        Boundary.refused(Town::full, "house", 10, 20, 700);
        Boundary.refused(Town::full, "house", 0, 0, 0);
        Run run = new Run();
        for (int house = 0; house < 20; house++) {
            run.due(BAD, "house", 0, -5001, 0).due(BAD, "house", 0, 0, 1001).due(house, "house", 0, 0, 1);
        }
        run.due(BAD, "house", 0, 0, 1).due(20, "count", 1).due(20, "count", 3);
    }

    private static void noSuchWall() {
        for (int place = 0; place < 5; place++) {
            int least = place < 4 ? -5000 : 0;
            int most = place < 4 ? 5000 : 300;
            Boundary.refusedOutside(Town::small, least, most, place, "wall", -9, -9, 90, 90, 250);
        }
    }

    private static void wallOfOnePoint() {
        Boundary.refused(Town::small, "wall", 0, 0, 0, 0, 300);
        Boundary.refused(Town::small, "wall", 15, 20, 15, 20, 0);
        Boundary.refused(Town::small, "wall", -5000, 5000, -5000, 5000, 5);
        Run run = new Run();
        run.due(BAD, "wall", 7, 9, 7, 9, 5).due(0, "wall", 7, 9, 9, 7, 5).due(1, "wall", 7, 9, 7, 8, 5);
        run.due(2, "wall", 7, 9, 6, 9, 5).due(3, "wall", 7, 7, 9, 9, 5).due(4, "wall", 7, -7, -7, 7, 5).due(5, "count", 2);
    }

    private static void ninthWall() {
        Boundary.refused(Town::full, "wall", -9, -9, 90, 90, 250);
        Run run = new Run();
        for (int wall = 0; wall < 8; wall++) {
            run.due(BAD, "wall", 0, 0, 5001, 0, 0).due(BAD, "wall", 3, 3, 3, 3, 5).due(wall, "wall", 0, 0, 1, 0, 0);
        }
        run.due(BAD, "wall", 0, 0, 1, 0, 0).due(8, "count", 2);
    }

    /** A call with one number tells what the last one that was taken told it. */
    private static void whatItWas(int atFirst, int most, String name) {
        Run run = new Run();
        run.due(atFirst, name, most).due(most, name, 0).due(0, name, 1).due(BAD, name, most + 1).due(1, name, most - 1);
        run.due(BAD, name, -1).due(most - 1, name, most).due(most, name, most);
    }

    private static void noSuchMalus() {
        Boundary.refusedOutside(Town::small, 0, 2, 0, "malus", 1, 5);
        for (int part = 0; part <= 2; part++) {
            Boundary.refusedOutside(Town::small, 0, 200, 1, "malus", part, 5);
        }
        Run run = new Run();
        run.due(0, "malus", 0, 200).due(BAD, "malus", 0, 201).due(200, "malus", 0, 0).due(BAD, "malus", 3, 0);
        run.due(BAD, "malus", -1, 0).due(0, "malus", 0, 1).due(50, "malus", 1, 1).due(100, "malus", 2, 1);
    }

    private static void cutBefore() {
        Run run = new Run();
        run.due(0, "wall", 0, 0, 1, 0, 300).due(1, "wall", 0, 0, 1, 0, 0).due(300, "recut", 0, 0).due(0, "recut", 1, 300);
        run.due(0, "recut", 0, 7).due(BAD, "recut", 0, 301).due(7, "recut", 0, 7).due(300, "recut", 1, 299);
        run.due(BAD, "recut", 1, -1).due(299, "recut", 1, 0);
    }

    private static void noSuchRecut() {
        for (int wall = 0; wall <= 2; wall++) {
            Boundary.refusedOutside(Town::small, 0, 300, 1, "recut", wall, 5);
        }
        Boundary.refusedOutside(Town::small, 0, 2, 0, "recut", 1, 5);
        Boundary.refusedOutside(Town::full, 0, 7, 0, "recut", 1, 5);
    }

    private static void noSuchGift() {
        Boundary.refusedOutside(Town::small, 0, 2, 0, "gives", 0, 0, 0);
        Boundary.refusedOutside(Town::small, 0, 3, 1, "gives", 0, 0, 0);
        Boundary.refusedOutside(Town::small, 0, 2, 2, "gives", 0, 0, 0);
        Boundary.refusedOutside(Town::full, 0, 11, 0, "gives", 0, 0, 0);
        Boundary.refusedOutside(Town::full, 0, 19, 1, "gives", 0, 0, 0);
    }

    private static void levelsByPart() {
        Run run = new Run();
        run.due(0, "piece", 0, 0, 100, 200, 300).due(0, "house", 0, 0, 1);
        run.due(100, "level", 0, 0).due(200, "level", 0, 1).due(300, "level", 0, 2).due(400, "level", 0, 3);
        run.due(BAD, "level", 0, -1).due(BAD, "level", 0, 4);
    }

    private static void noSuchLevel() {
        for (int part = 0; part <= 3; part++) {
            Boundary.refusedOutside(Town::small, 0, 3, 0, "level", 0, part);
            Boundary.refusedOutside(Town::full, 0, 19, 0, "level", 0, part);
        }
        Boundary.refusedOutside(Town::small, 0, 3, 1, "level", 0, 0);
    }

    private static void aboveLimit() {
        Run run = new Run();
        run.due(0, "people", LEAST).due(0, "people", 0).due(0, "people", MOST);
        run.due(0, "piece", 0, 0, 100, 0, 0).due(0, "house", 0, 0, 3).due(1, "house", 0, 20, 40).due(2, "house", 0, 5000, 500);
        run.due(543, "people", LEAST).due(543, "people", -1).due(43, "people", 0).due(43, "people", 69);
        run.due(3, "people", 70).due(3, "people", 99).due(0, "people", 100).due(0, "people", MOST);
    }

    private static void firstOfLoudest() {
        Run run = new Run();
        run.due(0, "house", 0, 0, 1).due(0, "piece", 0, 0, 5, 4, 0).due(1, "piece", 0, 0, 5, 5, 0);
        run.due(2, "piece", 0, 0, 5, 5, 6).due(3, "piece", 0, 20, 35, 35, 36);
        run.due(0, "loudest", 0, 0).due(1, "loudest", 0, 1).due(2, "loudest", 0, 2);
        run.due(30, "fall", 29).due(3, "loudest", 0, 0).due(3, "loudest", 0, 1).due(3, "loudest", 0, 2);
    }

    private static void noSuchLoudest() {
        Boundary.refusedOutside(Town::small, 0, 3, 0, "loudest", 0, 0);
        Boundary.refusedOutside(Town::full, 0, 19, 0, "loudest", 0, 0);
        Boundary.refusedOutside(Town::small, 0, 2, 1, "loudest", 0, 0);
    }

    private static void nothingIsLoudest() {
        Run run = new Run();
        run.due(0, "house", 20, 0, 1).due(BAD, "loudest", 0, 0).due(0, "piece", 0, 0, 0, 30, 31);
        run.due(BAD, "loudest", 0, 0).due(BAD, "loudest", 0, 1).due(0, "loudest", 0, 2);
        run.due(0, "wall", 5, -5, 5, 5, 1).due(BAD, "loudest", 0, 2).due(1, "recut", 0, 0).due(0, "loudest", 0, 2);
        Boundary.refused(silent -> silent.due(0, "house", 0, 0, 1).due(0, "piece", 0, 0, 0, 0, 0), "loudest", 0, 0);
    }

    private static void rankOfEqualOnes() {
        Run run = new Run();
        run.due(0, "house", 0, 80, 1).due(1, "house", 0, 20, 1).due(2, "house", 80, 0, 1).due(3, "house", 20, 0, 1);
        inOrder(run, 0, 1, 2, 3);
        run.due(0, "piece", 0, 0, 500, 0, 0);
        inOrder(run, 1, 3, 0, 2);
        run.due(30, "fall", 0);
        inOrder(run, 0, 1, 2, 3);
        // By its all-day level, malus and all, the last one is the first.
        run.due(1, "piece", 20, 0, 0, 0, 401).due(0, "fall", 60);
        inOrder(run, 3, 1, 2, 0);
    }

    private static void inOrder(Run run, int... houses) {
        for (int k = 0; k < houses.length; k++) {
            run.due(houses[k], "ranked", k);
        }
        run.due(BAD, "ranked", houses.length);
    }

    private static void noSuchRank() {
        new Run().due(BAD, "ranked", 0).due(BAD, "ranked", -1).due(BAD, "ranked", MOST).due(BAD, "ranked", LEAST);
        Boundary.refusedOutside(Town::small, 0, 3, 0, "ranked", 0);
        Boundary.refusedOutside(Town::full, 0, 19, 0, "ranked", 0);
    }

    private static void cutsInSteps() {
        Run run = oneWall();
        for (int cut = 0; cut <= 300; cut += 5) {
            run.due(cut, "needed", 0, 500 - cut);
            if (cut > 0) {
                run.due(cut, "needed", 0, 504 - cut);
            }
        }
        run.due(0, "needed", 0, 501).due(BAD, "needed", 0, 199);
    }

    private static void noneAboveLimit() {
        Run run = oneWall();
        run.due(0, "needed", 0, 500).due(5, "needed", 0, 499).due(0, "needed", 0, MOST).due(BAD, "needed", 0, LEAST);
        // A house without people counts, too, and one that the wall doesn't shield.
        run.due(1, "house", -10, 0, 0).due(0, "needed", 0, 500).due(BAD, "needed", 0, 499);
        Run night = new Run();
        night.due(0, "piece", 0, 0, 500, 0, 401).due(0, "house", 10, 0, 1).due(0, "wall", 5, -5, 5, 5, 0);
        night.due(0, "needed", 0, 501).due(5, "needed", 0, 500).due(5, "needed", 0, 496).due(10, "needed", 0, 495);
        Run noHouse = new Run();
        noHouse.due(0, "wall", 5, -5, 5, 5, 300).due(0, "needed", 0, 0).due(0, "needed", 0, LEAST);
    }

    private static void cutStays() {
        for (int cut : new int[] {0, 5, 7, 150, 299, 300}) {
            Run run = oneWall();
            run.due(0, "recut", 0, cut).due(500 - cut, "gives", 0, 0, 0);
            run.due(100, "needed", 0, 400).due(500 - cut, "gives", 0, 0, 0).due(BAD, "needed", 0, 199);
            run.due(500 - cut, "gives", 0, 0, 0).due(0, "needed", 0, 900).due(cut, "recut", 0, 5);
        }
    }

    private static void noSuchNeed() {
        new Run().due(BAD, "needed", 0, MOST);
        for (int limit : new int[] {0, 450, MOST}) {
            Boundary.refusedOutside(Town::small, 0, 2, 0, "needed", 0, limit);
            Boundary.refusedOutside(Town::full, 0, 7, 0, "needed", 0, limit);
        }
    }

    private static void noCutIsEnough() {
        Run run = oneWall();
        run.due(300, "needed", 0, 200).due(BAD, "needed", 0, 199).due(BAD, "needed", 0, 0).due(BAD, "needed", 0, -1);
        run.due(1, "wall", 0, 5, 10, 5, 0).due(0, "needed", 1, 500).due(BAD, "needed", 1, 499);
        for (int wall = 0; wall <= 2; wall++) {
            Boundary.refused(Town::small, "needed", wall, 10);
            Boundary.refused(Town::small, "needed", wall, -1);
        }
    }

    /** A piece gives a house 500, and a wall between them cuts nothing yet. */
    private static Run oneWall() {
        Run run = new Run();
        return run.due(0, "piece", 0, 0, 500, 0, 0).due(0, "house", 10, 0, 1).due(0, "wall", 5, -5, 5, 5, 0);
    }
}

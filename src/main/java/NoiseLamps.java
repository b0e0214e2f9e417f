/**
 * Noise and lamps along a road, in whole numbers. This class is the face: it looks at every
 * number that comes from outside, and hands on only what the classes inside can rely on.
 */
public final class NoiseLamps {
    public static final int BAD = -1;

    private static final int FARTHEST = 5000;
    private static final int MOST_LEVEL = 1200;
    private static final int MOST_PEOPLE = 1000;
    private static final int MOST_CUT = 300;
    private static final int CUT_STEP = 5;
    private static final int MOST_FALL = 60;
    private static final int MOST_MALUS = 200;
    private static final int PARTS = 3;
    private static final int ALL_DAY = 3;

    private static final int LAMP_STEP = 10;
    private static final int LAMP_REACH = 300;
    private static final int MOST_LIGHT = 100000;
    private static final int LONGEST_ROAD = 5000;
    private static final int PLACE_STEP = 10;
    private static final int HOURS = 24;
    private static final int UNDIMMED = 100;
    private static final int LEAST_SPACING = 10;
    private static final int MOST_SPACING = 600;
    private static final int SPACING_STEP = 10;
    private static final int FULL_EVENNESS = 1000;
    private static final int MOST_CURRENT = 20000;
    private static final int MOST_RESIST = 10000;
    private static final int NANOVOLTS_IN_MILLIVOLT = 1000000;

    private final Noise noise;
    private final Lamps lamps;

    public NoiseLamps() {
        noise = new Noise();
        lamps = new Lamps();
    }

    public int piece(int x, int y, int first, int second, int third) {
        if (!isPoint(x, y) || !isLevel(first) || !isLevel(second) || !isLevel(third)) {
            return BAD;
        }
        return noise.addPiece(x, y, first, second, third);
    }

    public int house(int x, int y, int people) {
        if (!isPoint(x, y) || !isWithin(people, 0, MOST_PEOPLE)) {
            return BAD;
        }
        return noise.addHouse(x, y, people);
    }

    public int wall(int x0, int y0, int x1, int y1, int cut) {
        boolean oneEnd = x0 == x1 && y0 == y1;
        if (!isPoint(x0, y0) || !isPoint(x1, y1) || oneEnd || !isCut(cut)) {
            return BAD;
        }
        return noise.addWall(x0, y0, x1, y1, cut);
    }

    public int fall(int tenths) {
        return isWithin(tenths, 0, MOST_FALL) ? noise.changeFall(tenths) : BAD;
    }

    public int malus(int part, int tenths) {
        if (!isPart(part) || !isWithin(tenths, 0, MOST_MALUS)) {
            return BAD;
        }
        return noise.changeMalus(part, tenths);
    }

    public int gives(int piece, int house, int part) {
        if (!noise.hasPiece(piece) || !noise.hasHouse(house) || !isPart(part)) {
            return BAD;
        }
        return noise.given(piece, house, part);
    }

    public int level(int house, int part) {
        if (!noise.hasHouse(house)) {
            return BAD;
        }
        if (part == ALL_DAY) {
            return noise.allDayLevel(house);
        }
        return isPart(part) ? noise.partLevel(house, part) : BAD;
    }

    public int people(int limit) {
        return noise.peopleAbove(limit);
    }

    public int loudest(int house, int part) {
        if (!noise.hasHouse(house) || !isPart(part)) {
            return BAD;
        }
        return noise.loudestPiece(house, part);
    }

    public int ranked(int k) {
        // There are as many ranks as houses.
        return noise.hasHouse(k) ? noise.houseOfRank(k) : BAD;
    }

    public int needed(int wall, int limit) {
        return noise.hasWall(wall) ? noise.leastCut(wall, limit) : BAD;
    }

    public int recut(int wall, int cut) {
        return noise.hasWall(wall) && isCut(cut) ? noise.changeCut(wall, cut) : BAD;
    }

    // ---- lamps

    public int lamp(int distance, int light) {
        boolean told = isWithin(distance, 0, LAMP_REACH) && distance % LAMP_STEP == 0;
        if (!told || !isWithin(light, 0, MOST_LIGHT)) {
            return BAD;
        }
        return lamps.changeLight(distance, light);
    }

    public int shines(int distance) {
        return distance >= 0 ? lamps.lightFrom(distance) : BAD;
    }

    public int road(int length) {
        return isWithin(length, 0, LONGEST_ROAD) ? lamps.changeLength(length) : BAD;
    }

    public int dim(int hour, int percent) {
        if (!isHour(hour) || !isWithin(percent, 0, UNDIMMED)) {
            return BAD;
        }
        return lamps.changePercent(hour, percent);
    }

    public int at(int place, int spacing, int hour) {
        if (!isWithin(place, 0, lamps.roadLength()) || !isSpacing(spacing) || !isHour(hour)) {
            return BAD;
        }
        return lamps.dimmedLight(place, spacing, hour);
    }

    public int row(int spacing, int what) {
        if (!isSpacing(spacing)) {
            return BAD;
        }
        switch (what) {
            case 0:
                return lamps.leastLight(spacing);
            case 1:
                return lamps.meanLight(spacing);
            case 2:
                return lamps.evenness(spacing);
            case 3:
                return lamps.poles(spacing);
            default:
                return BAD;
        }
    }

    public int spacing(int mean, int evenness) {
        return lamps.widestGoodSpacing(mean, evenness);
    }

    public int dark(int spacing, int mean) {
        return isSpacing(spacing) ? lamps.hoursBelow(spacing, mean) : BAD;
    }

    public int drop(int spacing, int current, int resist) {
        if (!isSpacing(spacing) || !isWire(current, resist)) {
            return BAD;
        }
        return lamps.millivolts(spacing, current, resist);
    }

    public int wired(int current, int resist, int most) {
        return isWire(current, resist) ? lamps.widestWiredSpacing(current, resist, most) : BAD;
    }

    public int count(int what) {
        switch (what) {
            case 0:
                return noise.pieceCount();
            case 1:
                return noise.houseCount();
            case 2:
                return noise.wallCount();
            case 3:
                return noise.allPeople();
            case 4:
                return lamps.litDistances();
            case 5:
                return lamps.roadLength();
            default:
                return BAD;
        }
    }

    private static boolean isWithin(int number, int least, int most) {
        return number >= least && number <= most;
    }

    private static boolean isPoint(int x, int y) {
        return isWithin(x, -FARTHEST, FARTHEST) && isWithin(y, -FARTHEST, FARTHEST);
    }

    private static boolean isLevel(int tenths) {
        return isWithin(tenths, 0, MOST_LEVEL);
    }

    private static boolean isCut(int tenths) {
        return isWithin(tenths, 0, MOST_CUT);
    }

    private static boolean isPart(int part) {
        return isWithin(part, 0, PARTS - 1);
    }

    private static boolean isHour(int hour) {
        return isWithin(hour, 0, HOURS - 1);
    }

    private static boolean isSpacing(int spacing) {
        return isWithin(spacing, LEAST_SPACING, MOST_SPACING);
    }

    private static boolean isWire(int current, int resist) {
        return isWithin(current, 0, MOST_CURRENT) && isWithin(resist, 0, MOST_RESIST);
    }

    /** Pieces of road, houses and walls, and the levels that come of them. */
    private static final class Noise {
        private static final int MOST_PIECES = 12;
        private static final int MOST_HOUSES = 20;
        private static final int MOST_WALLS = 8;
        private static final int FIRST_FALL = 30;
        private static final int TEN_METRES_SQUARED = 100;
        private static final int MOST_DOUBLINGS = 10;

        private int pieces;
        private final int[] pieceX = new int[MOST_PIECES];
        private final int[] pieceY = new int[MOST_PIECES];
        private final int[] pieceLevel = new int[MOST_PIECES * PARTS];

        private int houses;
        private final int[] houseX = new int[MOST_HOUSES];
        private final int[] houseY = new int[MOST_HOUSES];
        private final int[] housePeople = new int[MOST_HOUSES];

        private int walls;
        private final int[] wallX0 = new int[MOST_WALLS];
        private final int[] wallY0 = new int[MOST_WALLS];
        private final int[] wallX1 = new int[MOST_WALLS];
        private final int[] wallY1 = new int[MOST_WALLS];
        private final int[] wallCut = new int[MOST_WALLS];

        private int fall;
        private final int[] malus = {0, 50, 100};

        // Points and walls never move, so what depends on them alone is worked out once for each
        // pair of a piece and a house: 'needed' may ask for it 43,920 times a call. Of the walls
        // between the two, each has a bit.
        private final int[] doublings = new int[MOST_PIECES * MOST_HOUSES];
        private final int[] wallsBetween = new int[MOST_PIECES * MOST_HOUSES];

        private final int[] allDayLevels = new int[MOST_HOUSES];

        Noise() {
            fall = FIRST_FALL;
        }

        int pieceCount() {
            return pieces;
        }

        int houseCount() {
            return houses;
        }

        int wallCount() {
            return walls;
        }

        boolean hasPiece(int piece) {
            return piece >= 0 && piece < pieces;
        }

        boolean hasHouse(int house) {
            return house >= 0 && house < houses;
        }

        boolean hasWall(int wall) {
            return wall >= 0 && wall < walls;
        }

        int addPiece(int x, int y, int first, int second, int third) {
            if (pieces >= MOST_PIECES) {
                return BAD;
            }
            int piece = pieces;
            pieces++;
            pieceX[piece] = x;
            pieceY[piece] = y;
            pieceLevel[piece * PARTS] = first;
            pieceLevel[piece * PARTS + 1] = second;
            pieceLevel[piece * PARTS + 2] = third;
            for (int house = 0; house < houses; house++) {
                measurePair(piece, house);
            }
            return piece;
        }

        int addHouse(int x, int y, int people) {
            if (houses >= MOST_HOUSES) {
                return BAD;
            }
            int house = houses;
            houses++;
            houseX[house] = x;
            houseY[house] = y;
            housePeople[house] = people;
            for (int piece = 0; piece < pieces; piece++) {
                measurePair(piece, house);
            }
            return house;
        }

        int addWall(int x0, int y0, int x1, int y1, int cut) {
            if (walls >= MOST_WALLS) {
                return BAD;
            }
            int wall = walls;
            walls++;
            wallX0[wall] = x0;
            wallY0[wall] = y0;
            wallX1[wall] = x1;
            wallY1[wall] = y1;
            wallCut[wall] = cut;
            for (int piece = 0; piece < pieces; piece++) {
                for (int house = 0; house < houses; house++) {
                    noteIfBetween(wall, piece, house);
                }
            }
            return wall;
        }

        int changeFall(int tenths) {
            int before = fall;
            fall = tenths;
            return before;
        }

        int changeMalus(int part, int tenths) {
            int before = malus[part];
            malus[part] = tenths;
            return before;
        }

        int changeCut(int wall, int cut) {
            int before = wallCut[wall];
            wallCut[wall] = cut;
            return before;
        }

        int allPeople() {
            int sum = 0;
            for (int house = 0; house < houses; house++) {
                sum += housePeople[house];
            }
            return sum;
        }

        int peopleAbove(int limit) {
            int sum = 0;
            for (int house = 0; house < houses; house++) {
                if (allDayLevel(house) > limit) {
                    sum += housePeople[house];
                }
            }
            return sum;
        }

        int given(int piece, int house, int part) {
            int pair = pairOf(piece, house);
            int left = pieceLevel[piece * PARTS + part] - fall * doublings[pair] - greatestCut(pair);
            return Math.max(left, 0);
        }

        int partLevel(int house, int part) {
            int joined = 0;
            for (int piece = 0; piece < pieces; piece++) {
                joined = join(joined, given(piece, house, part));
            }
            return joined;
        }

        int allDayLevel(int house) {
            int greatest = 0;
            for (int part = 0; part < PARTS; part++) {
                int heard = partLevel(house, part);
                if (heard > 0) {
                    greatest = Math.max(greatest, heard + malus[part]);
                }
            }
            return greatest;
        }

        int loudestPiece(int house, int part) {
            int loudest = BAD;
            int most = 0;
            for (int piece = 0; piece < pieces; piece++) {
                int heard = given(piece, house, part);
                if (heard > most) {
                    most = heard;
                    loudest = piece;
                }
            }
            return loudest;
        }

        int houseOfRank(int rank) {
            for (int house = 0; house < houses; house++) {
                allDayLevels[house] = allDayLevel(house);
            }
            for (int house = 0; house < houses; house++) {
                if (housesAhead(house) == rank) {
                    return house;
                }
            }
            return BAD;
        }

        int leastCut(int wall, int limit) {
            int before = wallCut[wall];
            int found = BAD;
            // A smaller cut of one piece can join to more, so no cut may be skipped.
            for (int cut = 0; cut <= MOST_CUT && found == BAD; cut += CUT_STEP) {
                wallCut[wall] = cut;
                if (noneAbove(limit)) {
                    found = cut;
                }
            }
            wallCut[wall] = before;
            return found;
        }

        private boolean noneAbove(int limit) {
            for (int house = 0; house < houses; house++) {
                if (allDayLevel(house) > limit) {
                    return false;
                }
            }
            return true;
        }

        private int housesAhead(int house) {
            int ahead = 0;
            for (int other = 0; other < houses; other++) {
                boolean equalAndFirst = allDayLevels[other] == allDayLevels[house] && other < house;
                if (allDayLevels[other] > allDayLevels[house] || equalAndFirst) {
                    ahead++;
                }
            }
            return ahead;
        }

        private int greatestCut(int pair) {
            int greatest = 0;
            for (int wall = 0; wall < walls; wall++) {
                boolean between = (wallsBetween[pair] & (1 << wall)) != 0;
                if (between && wallCut[wall] > greatest) {
                    greatest = wallCut[wall];
                }
            }
            return greatest;
        }

        private void measurePair(int piece, int house) {
            int dx = pieceX[piece] - houseX[house];
            int dy = pieceY[piece] - houseY[house];
            doublings[pairOf(piece, house)] = doublingsOf(dx * dx + dy * dy);
            for (int wall = 0; wall < walls; wall++) {
                noteIfBetween(wall, piece, house);
            }
        }

        private void noteIfBetween(int wall, int piece, int house) {
            if (isBetween(wall, piece, house)) {
                wallsBetween[pairOf(piece, house)] |= 1 << wall;
            }
        }

        private boolean isBetween(int wall, int piece, int house) {
            int px = pieceX[piece];
            int py = pieceY[piece];
            int hx = houseX[house];
            int hy = houseY[house];
            int x0 = wallX0[wall];
            int y0 = wallY0[wall];
            int x1 = wallX1[wall];
            int y1 = wallY1[wall];
            // Sides alone can't tell whether two stretches of one line meet: their spans can.
            return spansMeet(px, hx, x0, x1)
                    && spansMeet(py, hy, y0, y1)
                    && !onOneSide(turn(px, py, hx, hy, x0, y0), turn(px, py, hx, hy, x1, y1))
                    && !onOneSide(turn(x0, y0, x1, y1, px, py), turn(x0, y0, x1, y1, hx, hy));
        }

        private static int pairOf(int piece, int house) {
            return piece * MOST_HOUSES + house;
        }

        private static int join(int one, int other) {
            if (one == 0 || other == 0) {
                return one + other;
            }
            return Math.max(one, other) + moreByJoining(Math.abs(one - other));
        }

        private static int moreByJoining(int apart) {
            if (apart < 15) {
                return 30;
            }
            if (apart < 35) {
                return 20;
            }
            return apart < 95 ? 10 : 0;
        }

        private static int doublingsOf(int distanceSquared) {
            int doublings = 0;
            // Twice as far is four times the square. Points are less than 20,480 metres apart, so
            // there are at most ten doublings, and 'next' stays an int.
            int next = 4 * TEN_METRES_SQUARED;
            while (doublings < MOST_DOUBLINGS && next <= distanceSquared) {
                doublings++;
                next *= 4;
            }
            return doublings;
        }

        private static boolean spansMeet(int a, int b, int c, int d) {
            return Math.max(a, b) >= Math.min(c, d) && Math.max(c, d) >= Math.min(a, b);
        }

        private static boolean onOneSide(int turn, int otherTurn) {
            return turn > 0 && otherTurn > 0 || turn < 0 && otherTurn < 0;
        }

        /** Above 0 if c lies to the left of the way from a to b, below 0 to its right, else 0. */
        private static int turn(int ax, int ay, int bx, int by, int cx, int cy) {
            return (bx - ax) * (cy - ay) - (by - ay) * (cx - ax);
        }
    }

    /** A lamp, the row of poles along the road, its hours and its wire. */
    private static final class Lamps {
        private final int[] light = new int[LAMP_REACH / LAMP_STEP + 1];
        private final int[] percents = new int[HOURS];
        private final int[] placeLight = new int[LONGEST_ROAD / PLACE_STEP + 1];
        private int length;

        Lamps() {
            for (int hour = 0; hour < HOURS; hour++) {
                percents[hour] = UNDIMMED;
            }
        }

        int roadLength() {
            return length;
        }

        int changeLength(int decimetres) {
            int before = length;
            length = decimetres;
            return before;
        }

        int changeLight(int distance, int brightness) {
            int before = light[distance / LAMP_STEP];
            light[distance / LAMP_STEP] = brightness;
            return before;
        }

        int changePercent(int hour, int percent) {
            int before = percents[hour];
            percents[hour] = percent;
            return before;
        }

        int litDistances() {
            int lit = 0;
            for (int told = 0; told < light.length; told++) {
                if (light[told] > 0) {
                    lit++;
                }
            }
            return lit;
        }

        int lightFrom(int distance) {
            if (distance > LAMP_REACH) {
                return 0;
            }
            int near = distance / LAMP_STEP;
            int beyond = distance % LAMP_STEP;
            if (beyond == 0) {
                return light[near];
            }
            return (light[near] * (LAMP_STEP - beyond) + light[near + 1] * beyond) / LAMP_STEP;
        }

        int dimmedLight(int place, int spacing, int hour) {
            return dimmed(lightAt(place, spacing), percents[hour]);
        }

        int poles(int spacing) {
            return length / spacing + 1;
        }

        int leastLight(int spacing) {
            lightPlaces(spacing);
            return leastOfPlaces();
        }

        int meanLight(int spacing) {
            lightPlaces(spacing);
            return meanOfPlaces(UNDIMMED);
        }

        int evenness(int spacing) {
            lightPlaces(spacing);
            return evennessOfPlaces();
        }

        int widestGoodSpacing(int mean, int evenness) {
            for (int spacing = MOST_SPACING; spacing >= LEAST_SPACING; spacing -= SPACING_STEP) {
                lightPlaces(spacing);
                if (meanOfPlaces(UNDIMMED) >= mean && evennessOfPlaces() >= evenness) {
                    return spacing;
                }
            }
            return BAD;
        }

        int hoursBelow(int spacing, int mean) {
            lightPlaces(spacing);
            int below = 0;
            for (int hour = 0; hour < HOURS; hour++) {
                if (meanOfPlaces(percents[hour]) < mean) {
                    below++;
                }
            }
            return below;
        }

        int millivolts(int spacing, int current, int resist) {
            long poles = poles(spacing);
            // The last stretch carries one pole's current, the one before it two, and so on.
            long carried = poles * (poles - 1) / 2 * current;
            return (int) (carried * spacing * resist / NANOVOLTS_IN_MILLIVOLT);
        }

        int widestWiredSpacing(int current, int resist, int most) {
            for (int spacing = MOST_SPACING; spacing >= LEAST_SPACING; spacing -= SPACING_STEP) {
                if (millivolts(spacing, current, resist) <= most) {
                    return spacing;
                }
            }
            return BAD;
        }

        private int lightAt(int place, int spacing) {
            int last = Math.min(length, place + LAMP_REACH) / spacing;
            int sum = 0;
            for (int pole = firstPoleInReach(place, spacing); pole <= last; pole++) {
                sum += lightFrom(Math.abs(place - pole * spacing));
            }
            return sum;
        }

        private int places() {
            return length / PLACE_STEP + 1;
        }

        /** The row's undimmed light at all its places, for the functions of places below. */
        private void lightPlaces(int spacing) {
            for (int place = 0; place < places(); place++) {
                placeLight[place] = lightAt(place * PLACE_STEP, spacing);
            }
        }

        private int leastOfPlaces() {
            int least = placeLight[0];
            for (int place = 1; place < places(); place++) {
                least = Math.min(least, placeLight[place]);
            }
            return least;
        }

        private int meanOfPlaces(int percent) {
            // 501 places with 61 bright lamps each are more than an int holds.
            long sum = 0;
            for (int place = 0; place < places(); place++) {
                sum += dimmed(placeLight[place], percent);
            }
            return (int) (sum / places());
        }

        private int evennessOfPlaces() {
            int mean = meanOfPlaces(UNDIMMED);
            if (mean == 0) {
                return 0;
            }
            return (int) ((long) leastOfPlaces() * FULL_EVENNESS / mean);
        }

        private static int dimmed(int brightness, int percent) {
            return brightness * percent / UNDIMMED;
        }

        private static int firstPoleInReach(int place, int spacing) {
            int unlit = place - LAMP_REACH;
            return unlit <= 0 ? 0 : (unlit + spacing - 1) / spacing;
        }
    }
}

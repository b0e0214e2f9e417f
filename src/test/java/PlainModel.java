import java.util.ArrayList;
import java.util.List;

/**
 * The document once more, as plainly as it can be written and by other ways than the program's: nothing is kept that can
 * be worked out, every pole is asked, every stretch of wire is walked.
 */
final class PlainModel {
    private static final int BAD = -1;

    private final List<long[]> pieces = new ArrayList<>();
    private final List<long[]> houses = new ArrayList<>();
    private final List<long[]> walls = new ArrayList<>();
    private final long[] malus = {0, 50, 100};
    private final long[] light = new long[301];
    private final long[] percents = new long[24];
    private long fall = 30;
    private long length = 0;

    PlainModel() {
        java.util.Arrays.fill(percents, 100);
    }

    long answer(String name, int[] n) {
        switch (name) {
            case "piece":
                return add(pieces, 12, points(n, 2) && in(n[2], 0, 1200) && in(n[3], 0, 1200) && in(n[4], 0, 1200), n);
            case "house":
                return add(houses, 20, points(n, 2) && in(n[2], 0, 1000), n);
            case "wall":
                return add(walls, 8, points(n, 4) && in(n[4], 0, 300) && !(n[0] == n[2] && n[1] == n[3]), n);
            case "fall":
                return fall(n[0]);
            case "malus":
                return change(malus, in(n[0], 0, 2) && in(n[1], 0, 200), n[0], n[1]);
            case "gives":
                return has(pieces, n[0]) && has(houses, n[1]) && in(n[2], 0, 2) ? gives(n[0], n[1], n[2]) : BAD;
            case "level":
                return !has(houses, n[0]) || !in(n[1], 0, 3) ? BAD : n[1] == 3 ? allDay(n[0]) : level(n[0], n[1]);
            case "people":
                return people(n[0]);
            case "loudest":
                return has(houses, n[0]) && in(n[1], 0, 2) ? loudest(n[0], n[1]) : BAD;
            case "ranked":
                return has(houses, n[0]) ? ranked().get(n[0]) : BAD;
            case "needed":
                return has(walls, n[0]) ? needed(n[0], n[1]) : BAD;
            case "recut":
                return has(walls, n[0]) ? change(walls.get(n[0]), in(n[1], 0, 300), 4, n[1]) : BAD;
            default:
                return answerOfLamps(name, n);
        }
    }

    private long answerOfLamps(String name, int[] n) {
        switch (name) {
            case "lamp":
                return change(light, in(n[0], 0, 300) && n[0] % 10 == 0 && in(n[1], 0, 100000), n[0], n[1]);
            case "shines":
                return n[0] < 0 ? BAD : shines(n[0]);
            case "road":
                return road(n[0]);
            case "dim":
                return change(percents, in(n[0], 0, 23) && in(n[1], 0, 100), n[0], n[1]);
            case "at":
                return in(n[0], 0, length) && in(n[1], 10, 600) && in(n[2], 0, 23)
                        ? at(n[0], n[1]) * percents[n[2]] / 100 : BAD;
            case "row":
                return in(n[0], 10, 600) && in(n[1], 0, 3) ? row(n[0], n[1]) : BAD;
            case "spacing":
                return spacing(n[0], n[1]);
            case "dark":
                return in(n[0], 10, 600) ? dark(n[0], n[1]) : BAD;
            case "drop":
                return in(n[0], 10, 600) && in(n[1], 0, 20000) && in(n[2], 0, 10000) ? drop(n[0], n[1], n[2]) : BAD;
            case "wired":
                return in(n[0], 0, 20000) && in(n[1], 0, 10000) ? wired(n[0], n[1], n[2]) : BAD;
            case "count":
                return in(n[0], 0, 5) ? count(n[0]) : BAD;
            default:
                throw new IllegalArgumentException(name);
        }
    }

    private static boolean in(long number, long least, long most) {
        return least <= number && number <= most;
    }

    private static boolean points(int[] numbers, int many) {
        boolean all = true;
        for (int i = 0; i < many; i++) {
            all &= in(numbers[i], -5000, 5000);
        }
        return all;
    }

    private static boolean has(List<long[]> things, int which) {
        return in(which, 0, things.size() - 1);
    }

    private static long add(List<long[]> things, int most, boolean right, int[] numbers) {
        if (!right || things.size() == most) {
            return BAD;
        }
        things.add(java.util.Arrays.stream(numbers).asLongStream().toArray());
        return things.size() - 1;
    }

    private static long change(long[] numbers, boolean right, int which, int number) {
        if (!right) {
            return BAD;
        }
        long before = numbers[which];
        numbers[which] = number;
        return before;
    }

    private long fall(int tenths) {
        long before = fall;
        fall = in(tenths, 0, 60) ? tenths : fall;
        return in(tenths, 0, 60) ? before : BAD;
    }

    private long road(int decimetres) {
        long before = length;
        length = in(decimetres, 0, 5000) ? decimetres : length;
        return in(decimetres, 0, 5000) ? before : BAD;
    }

    private long gives(int piece, int house, int part) {
        long[] p = pieces.get(piece);
        long[] h = houses.get(house);
        long squared = (p[0] - h[0]) * (p[0] - h[0]) + (p[1] - h[1]) * (p[1] - h[1]);
        long k = 0;
        for (long tried = 1; tried <= 20; tried++) {
            long distance = 10 * (1L << tried);
            k = squared >= distance * distance ? tried : k;
        }
        long cut = 0;
        for (long[] w : walls) {
            cut = haveCommonPoint(p[0], p[1], h[0], h[1], w) ? Math.max(cut, w[4]) : cut;
        }
        return Math.max(0, p[2 + part] - fall * k - cut);
    }

    /** By where, in parts of both ways, the lines meet; along one line, by where the ends come to lie on the wall. */
    private static boolean haveCommonPoint(long px, long py, long hx, long hy, long[] w) {
        long wx = w[2] - w[0];
        long wy = w[3] - w[1];
        long sx = hx - px;
        long sy = hy - py;
        long fromX = w[0] - px;
        long fromY = w[1] - py;
        long by = sx * wy - sy * wx;
        if (by != 0) {
            long onWay = (fromX * wy - fromY * wx) * Long.signum(by);
            long onWall = (fromX * sy - fromY * sx) * Long.signum(by);
            return in(onWay, 0, Math.abs(by)) && in(onWall, 0, Math.abs(by));
        }
        if (fromX * wy != fromY * wx) {
            return false;
        }
        long whole = wx * wx + wy * wy;
        long one = -(fromX * wx + fromY * wy);
        long other = one + sx * wx + sy * wy;
        return Math.max(one, other) >= 0 && Math.min(one, other) <= whole;
    }

    private long level(int house, int part) {
        long level = 0;
        for (int piece = 0; piece < pieces.size(); piece++) {
            long next = gives(piece, house, part);
            if (next > 0 && level > 0) {
                long apart = Math.max(level, next) - Math.min(level, next);
                level = Math.max(level, next) + (apart >= 95 ? 0 : apart >= 35 ? 10 : apart >= 15 ? 20 : 30);
            } else if (next > 0) {
                level = next;
            }
        }
        return level;
    }

    private long allDay(int house) {
        long most = 0;
        for (int part = 0; part < 3; part++) {
            long level = level(house, part);
            most = level > 0 && level + malus[part] > most ? level + malus[part] : most;
        }
        return most;
    }

    private long people(int limit) {
        long sum = 0;
        for (int house = 0; house < houses.size(); house++) {
            sum += allDay(house) > limit ? houses.get(house)[2] : 0;
        }
        return sum;
    }

    private long loudest(int house, int part) {
        int best = BAD;
        for (int piece = pieces.size() - 1; piece >= 0; piece--) {
            long next = gives(piece, house, part);
            best = next > 0 && (best == BAD || next >= gives(best, house, part)) ? piece : best;
        }
        return best;
    }

    private List<Integer> ranked() {
        List<Integer> order = new ArrayList<>();
        for (int house = 0; house < houses.size(); house++) {
            order.add(house);
        }
        long[] levels = new long[houses.size()];
        order.forEach(house -> levels[house] = allDay(house));
        order.sort((one, other) -> Long.compare(levels[other], levels[one]));
        return order;
    }

    private long needed(int wall, int limit) {
        long before = walls.get(wall)[4];
        long found = BAD;
        for (int cut = 300; cut >= 0; cut -= 5) {
            walls.get(wall)[4] = cut;
            boolean enough = true;
            for (int house = 0; house < houses.size() && enough; house++) {
                enough = allDay(house) <= limit;
            }
            found = enough ? cut : found;
        }
        walls.get(wall)[4] = before;
        return found;
    }

    private long shines(long distance) {
        if (distance > 300) {
            return 0;
        }
        int near = (int) (distance - distance % 10);
        long far = near == 300 ? 0 : light[near + 10];
        return light[near] + Math.floorDiv((far - light[near]) * (distance % 10), 10L);
    }

    private long at(long place, int spacing) {
        long sum = 0;
        for (long pole = 0; pole <= length; pole += spacing) {
            sum += shines(Math.abs(pole - place));
        }
        return sum;
    }

    private long mean(int spacing, long percent) {
        long sum = 0;
        long number = 0;
        for (long place = 0; place <= length; place += 10) {
            sum += at(place, spacing) * percent / 100;
            number++;
        }
        return sum / number;
    }

    private long row(int spacing, int what) {
        long least = Long.MAX_VALUE;
        for (long place = 0; place <= length; place += 10) {
            least = Math.min(least, at(place, spacing));
        }
        long mean = mean(spacing, 100);
        long[] answers = {least, mean, mean == 0 ? 0 : least * 1000 / mean, length / spacing + 1};
        return answers[what];
    }

    private long spacing(int mean, int evenness) {
        long widest = BAD;
        for (int spacing = 10; spacing <= 600; spacing += 10) {
            widest = row(spacing, 1) >= mean && row(spacing, 2) >= evenness ? spacing : widest;
        }
        return widest;
    }

    private long dark(int spacing, int mean) {
        long hours = 0;
        for (int hour = 0; hour < 24; hour++) {
            hours += mean(spacing, percents[hour]) < mean ? 1 : 0;
        }
        return hours;
    }

    private long drop(int spacing, int current, int resist) {
        long sum = 0;
        for (long pole = spacing; pole <= length; pole += spacing) {
            long behind = 0;
            for (long other = pole; other <= length; other += spacing) {
                behind++;
            }
            sum += behind * current * spacing * resist;
        }
        return sum / 1000000;
    }

    private long wired(int current, int resist, int most) {
        long greatest = BAD;
        for (int spacing = 10; spacing <= 600; spacing += 10) {
            greatest = drop(spacing, current, resist) <= most ? spacing : greatest;
        }
        return greatest;
    }

    private long count(int what) {
        long people = 0;
        for (long[] house : houses) {
            people += house[2];
        }
        long lit = 0;
        for (long told : light) {
            lit += told > 0 ? 1 : 0;
        }
        long[] answers = {pieces.size(), houses.size(), walls.size(), people, lit, length};
        return answers[what];
    }
}

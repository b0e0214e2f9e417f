/** Runs of 512 calls, whose numbers are drawn by a fixed rule: each answer is the plain model's. */
final class LikePlainModelTest {
    private static final int RUNS = 120;
    private static final int CALLS = 512;

    private static final String[] NAMES = {
        "piece", "house", "wall", "fall", "malus", "gives", "level", "people", "loudest", "ranked", "needed", "recut",
        "lamp", "shines", "road", "dim", "at", "row", "spacing", "dark", "drop", "wired", "count",
    };
    private static final int[] SIZES = {5, 3, 5, 1, 2, 3, 2, 1, 2, 1, 2, 2, 2, 1, 1, 2, 3, 2, 2, 2, 3, 3, 1};
    private static final int[] EDGES = {
        -1, 0, 1, 2, 3, 4, 7, 8, 9, 10, 11, 12, 19, 20, 23, 24, 60, 61, 99, 100, 101, 200, 201, 300, 301, 310, 599, 600,
        601, 1000, 1001, 1200, 1201, 4999, 5000, 5001, -4999, -5000, -5001, 9999, 10000, 10001, 20000, 20001, 100000,
        100001, Integer.MAX_VALUE, Integer.MIN_VALUE, Integer.MAX_VALUE - 1, Integer.MIN_VALUE + 1, 1 << 30, -10,
    };
    /** By call and number, the most that makes sense; points go to both sides. */
    private static final int[][] MOST = {
        {0, 0, 1200, 1200, 1200}, {0, 0, 1000}, {0, 0, 0, 0, 300}, {60}, {2, 200}, {11, 19, 2}, {19, 3}, {1500}, {19, 2},
        {19}, {7, 1500}, {7, 300}, {300, 100000}, {320}, {5000}, {23, 100}, {5000, 600, 23}, {600, 3}, {100000, 1000},
        {600, 100000}, {600, 20000, 10000}, {20000, 10000, 1000000}, {5},
    };

    private static long drawn = 20261119;

    public static void main(String[] args) {
        for (int run = 0; run < RUNS; run++) {
            compare(run);
        }
        Run.end();
    }

    private static void compare(int number) {
        Run run = new Run();
        PlainModel model = new PlainModel();
        int[] towns = {12, 60, 400, 5000};
        int town = towns[number % towns.length];
        for (int call = 0; call < CALLS; call++) {
            int which = whichCall(call);
            int[] numbers = new int[SIZES[which]];
            for (int i = 0; i < numbers.length; i++) {
                numbers[i] = number(which, i, town);
            }
            run.due((int) model.answer(NAMES[which], numbers), NAMES[which], numbers);
        }
    }

    /** At first most calls tell of something: later answers are no use without. */
    private static int whichCall(int call) {
        int[] telling = {0, 1, 2, 12, 12, 12, 12, 14, 15};
        boolean tells = call < 120 && draw(4) != 0;
        int which = tells ? telling[draw(telling.length)] : draw(NAMES.length);
        boolean dear = NAMES[which].equals("spacing") || NAMES[which].equals("dark");
        return dear && draw(4) != 0 ? draw(12) : which;
    }

    private static int number(int which, int i, int town) {
        if (draw(40) == 0) {
            return EDGES[draw(EDGES.length)];
        }
        int most = MOST[which][i];
        if (most == 0) {
            return draw(2 * town + 1) - town;
        }
        boolean light = NAMES[which].equals("lamp");
        if (light && i == 0) {
            return 10 * draw(31);
        }
        boolean small = most > 100 && draw(3) == 0;
        return draw(small ? most / 10 + 1 : most + 1);
    }

    /** A number from 0 to below 'many', by a fixed rule. */
    private static int draw(int many) {
        drawn = drawn * 6364136223846793005L + 1442695040888963407L;
        return (int) ((drawn >>> 33) % many);
    }
}

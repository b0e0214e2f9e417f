import java.util.ArrayList;
import java.util.List;

/** Some 300 calls that bring to light what an object holds: first such as only ask, then such as tell what was. */
final class Questions {
    static final String[] NAMES = {
        "count", "gives", "level", "loudest", "people", "ranked", "needed", "shines", "at", "row", "spacing", "dark",
        "drop", "wired", "lamp", "dim", "fall", "malus", "recut", "road", "piece", "house", "wall",
    };
    static final int[][] ALL = all();

    private Questions() {
    }

    private static int[][] all() {
        List<int[]> questions = new ArrayList<>();
        noise(questions);
        light(questions);
        whatWas(questions);
        return questions.toArray(new int[0][]);
    }

    private static void noise(List<int[]> questions) {
        for (int what = 0; what <= 5; what++) {
            ask(questions, "count", what);
        }
        for (int house = 0; house <= 4; house++) {
            for (int part = 0; part <= 2; part++) {
                for (int piece = 0; piece <= 3; piece++) {
                    ask(questions, "gives", piece, house, part);
                }
                ask(questions, "loudest", house, part);
            }
            for (int part = 0; part <= 3; part++) {
                ask(questions, "level", house, part);
            }
            ask(questions, "ranked", house);
        }
        for (int limit = -1; limit <= 1200; limit += 100) {
            ask(questions, "people", limit);
        }
        for (int wall = 0; wall <= 3; wall++) {
            ask(questions, "needed", wall, 450);
            ask(questions, "needed", wall, 550);
        }
    }

    private static void light(List<int[]> questions) {
        for (int distance = 5; distance <= 305; distance += 50) {
            ask(questions, "shines", distance);
        }
        for (int hour = 0; hour < 24; hour++) {
            ask(questions, "at", 0, 100, hour);
        }
        for (int what = 0; what <= 3; what++) {
            ask(questions, "row", 80, what);
        }
        ask(questions, "at", 77, 10, 5);
        ask(questions, "spacing", 300, 200);
        ask(questions, "dark", 80, 300);
        ask(questions, "drop", 80, 5000, 3000);
        ask(questions, "wired", 5000, 3000, 100000);
    }

    private static void whatWas(List<int[]> questions) {
        for (int distance = 0; distance <= 300; distance += 10) {
            ask(questions, "lamp", distance, 7);
        }
        for (int hour = 0; hour < 24; hour++) {
            ask(questions, "dim", hour, 7);
        }
        for (int part = 0; part <= 2; part++) {
            ask(questions, "malus", part, 7);
        }
        for (int wall = 0; wall <= 7; wall++) {
            ask(questions, "recut", wall, 7);
        }
        ask(questions, "fall", 7);
        ask(questions, "road", 7);
        ask(questions, "piece", 0, 0, 7, 7, 7);
        ask(questions, "house", 0, 0, 7);
        ask(questions, "wall", 0, 0, 0, 7, 7);
        ask(questions, "gives", 0, 0, 1);
        ask(questions, "count", 3);
    }

    private static void ask(List<int[]> questions, String name, int... numbers) {
        int[] question = new int[numbers.length + 1];
        question[0] = java.util.Arrays.asList(NAMES).indexOf(name);
        System.arraycopy(numbers, 0, question, 1, numbers.length);
        questions.add(question);
    }
}

/** Promise 15: what a lamp gives at a distance, 0 or more. BAD: below 0. */
final class Promise15ShinesTest {
    public static void main(String[] args) {
        Run run = new Run();
        run.due(0, "lamp", 0, 100).due(0, "lamp", 10, 55).due(0, "lamp", 20, 56).due(0, "lamp", 40, 9);
        run.due(0, "lamp", 290, 100000).due(0, "lamp", 300, 99999);
        int[] fromNothing = {100, 95, 91, 86, 82, 77, 73, 68, 64, 59, 55, 55, 55, 55, 55, 55, 55, 55, 55, 55, 56, 50};
        for (int distance = 0; distance < fromNothing.length; distance++) {
            run.due(fromNothing[distance], "shines", distance);
        }
        run.due(5, "shines", 29).due(0, "shines", 30).due(0, "shines", 31).due(1, "shines", 32).due(8, "shines", 39);
        run.due(9, "shines", 40).due(8, "shines", 41).due(0, "shines", 49).due(0, "shines", 50).due(0, "shines", 280);
        run.due(10000, "shines", 281).due(90000, "shines", 289).due(100000, "shines", 290);
        run.due(99999, "shines", 291).due(99999, "shines", 299).due(99999, "shines", 300);
        run.due(0, "shines", 301).due(0, "shines", 310).due(0, "shines", Integer.MAX_VALUE);
        run.due(Run.BAD, "shines", -1).due(Run.BAD, "shines", -10).due(Run.BAD, "shines", Integer.MIN_VALUE);
        Run.end();
    }
}

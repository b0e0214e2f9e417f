import java.util.Arrays;

/** Each sentence of the document that names a boundary case has a test of its own here; none is left out. */
final class BoundarySentencesTest {
    private static final int CALLS_BEFORE_LAST = Run.MOST_CALLS - 1;

    public static void main(String[] args) {
        Boundary.sentence("What it is", "at most 512 calls", BoundarySentencesTest::lastCall);
        Boundary.sentence("What it is", "what later calls answer is free", BoundarySentencesTest::laterCalls);
        SentencesOfNoise.look();
        SentencesOfLamps.look();
        SentencesOfNoiseCalls.look();
        SentencesOfLampCalls.look();
        Boundary.allQuoted();
        Run.end();
    }

    /** Whatever is asked as the 512th call is answered as it is early. */
    private static void lastCall() {
        for (int[] question : Questions.ALL) {
            String name = Questions.NAMES[question[0]];
            int[] numbers = Arrays.copyOfRange(question, 1, question.length);
            Run early = new Run();
            Town.small(early);
            Run late = new Run();
            Town.small(late);
            while (late.calls() < CALLS_BEFORE_LAST) {
                late.due(4, "count", 1);
            }
            late.due(early.answer(name, numbers), name, numbers);
        }
    }

    /** They may answer anything, but the language has no call throw. */
    private static void laterCalls() {
        Run run = new Run();
        Town.small(run);
        for (int round = 0; round < 5; round++) {
            for (int[] question : Questions.ALL) {
                run.anyAnswer(Questions.NAMES[question[0]], Arrays.copyOfRange(question, 1, question.length));
            }
        }
        Run.holds(true, "no later call threw");
    }
}

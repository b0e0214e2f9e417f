import java.util.Arrays;
import java.util.LinkedHashSet;
import java.util.List;
import java.util.Set;
import java.util.function.Consumer;

/** What the tests of the document's boundary cases have in common. */
final class Boundary {
    private static final Document DOCUMENT = new Document();
    private static final Consumer<Run> NOTHING = run -> { };

    private Boundary() {
    }

    /** A sentence of the document, or a part of one, and the test that is its own. */
    static void sentence(String heading, String words, Runnable test) {
        int wrongBefore = Run.wrong();
        Run.holds(DOCUMENT.quote(heading, words), "the document says once under " + heading + ": " + words);
        int lookedBefore = Run.looked();
        test.run();
        Run.holds(Run.looked() > lookedBefore, "the test looks at something");
        System.out.println((Run.wrong() == wrongBefore ? "holds: " : "BROKEN: ") + heading + ": " + words);
    }

    /** Every boundary that the document names under its terms and its promises has been quoted. */
    static void allQuoted() {
        quoted("Terms");
        int promises = 0;
        for (String heading : DOCUMENT.headings()) {
            if (heading.startsWith("Promise ")) {
                quoted(heading);
                promises++;
            }
        }
        Run.holds(promises == 24, "there are 24 promises");
    }

    private static void quoted(String heading) {
        List<String> left = DOCUMENT.unquoted(heading);
        Run.holds(left.isEmpty(), "all boundaries under " + heading + " have a test, but for: " + left);
    }

    /** Numbers too small and too large, also such as would be right if only their last 8 or 16 bits were looked at. */
    static int[] outside(int least, int most) {
        Set<Integer> wrong = new LinkedHashSet<>();
        wrong.addAll(Arrays.asList(least - 1, most + 1, Integer.MIN_VALUE, Integer.MAX_VALUE, Integer.MIN_VALUE + 1));
        for (int bits = 8; bits <= 16; bits += 8) {
            for (int number : new int[] {least, most}) {
                wrong.add(number + (1 << bits));
                wrong.add(number - (1 << bits));
            }
        }
        return wrong.stream().mapToInt(number -> number).filter(number -> number < least || number > most).toArray();
    }

    /** On a new object, the number at a place of a call is taken at both its bounds, and refused beyond them. */
    static void bounds(int taken, int least, int most, int place, String name, int... numbers) {
        boundsAfter(NOTHING, taken, least, most, place, name, numbers);
    }

    /** The same on an object that was told of something. */
    static void boundsAfter(Consumer<Run> told, int taken, int least, int most, int place, String name, int... numbers) {
        for (int right : new int[] {least, most}) {
            Run run = new Run();
            told.accept(run);
            run.due(taken, name, with(numbers, place, right));
        }
        refusedOutside(told, least, most, place, name, numbers);
    }

    /** Each number at a place of a call that is out of its bounds is refused, and then nothing has changed. */
    static void refusedOutside(Consumer<Run> told, int least, int most, int place, String name, int... numbers) {
        for (int wrong : outside(least, most)) {
            refused(told, name, with(numbers, place, wrong));
        }
    }

    /** Of two objects that were told the same one is asked for what it refuses: they answer the same afterwards. */
    static void refused(Consumer<Run> told, String name, int... numbers) {
        Run refusing = new Run();
        Run spared = new Run();
        told.accept(refusing);
        told.accept(spared);
        refusing.due(Run.BAD, name, numbers);
        same(refusing, spared, name + Arrays.toString(numbers));
    }

    private static void same(Run one, Run other, String after) {
        for (int[] question : Questions.ALL) {
            String name = Questions.NAMES[question[0]];
            int[] numbers = Arrays.copyOfRange(question, 1, question.length);
            int want = other.answer(name, numbers);
            int got = one.answer(name, numbers);
            if (want != got) {
                Run.holds(false, "after " + after + ", " + name + Arrays.toString(numbers) + " is " + got + ", not " + want);
            }
        }
        Run.holds(true, "all was asked after " + after);
    }

    static int[] with(int[] numbers, int place, int number) {
        int[] changed = numbers.clone();
        changed[place] = number;
        return changed;
    }
}

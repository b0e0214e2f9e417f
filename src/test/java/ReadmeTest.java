import java.io.IOException;
import java.lang.reflect.Method;
import java.lang.reflect.Modifier;
import java.nio.charset.StandardCharsets;
import java.nio.file.Files;
import java.nio.file.Path;
import java.util.Arrays;
import java.util.HashMap;
import java.util.Map;
import java.util.Set;
import java.util.TreeSet;
import java.util.regex.Matcher;
import java.util.regex.Pattern;

/** What README.md says of the class is so; it is read from the project's folder. */
final class ReadmeTest {
    private static final Pattern STEP =
            Pattern.compile("(?:int (\\w+) = )?town\\.(\\w+)\\(([^)]*)\\);\\s*// (-?\\d+): .*");
    private static final Pattern TOLD = Pattern.compile("`(\\w+)\\(([^)]*)\\)`");

    public static void main(String[] args) throws IOException {
        String text = Files.readString(Path.of("README.md"), StandardCharsets.UTF_8);
        example(text);
        calls(text);
        tests(text);
        Run.end();
    }

    /** Each step of the example is one call, with its answer beside it. */
    private static void example(String text) {
        int start = text.indexOf("```java\n") + "```java\n".length();
        String[] lines = text.substring(start, text.indexOf("```", start)).split("\n");
        Run.holds(lines[0].equals("NoiseLamps town = new NoiseLamps();"), "the example makes an object first");
        Run town = new Run();
        Map<String, Integer> names = new HashMap<>();
        for (String line : Arrays.copyOfRange(lines, 1, lines.length)) {
            Matcher step = STEP.matcher(line);
            boolean isStep = step.matches();
            Run.holds(isStep || line.isEmpty(), "this is a step of the example: " + line);
            if (isStep) {
                int want = Integer.parseInt(step.group(4));
                town.due(want, step.group(2), numbers(step.group(3), names));
                names.put(step.group(1), want);
            }
        }
        Run.holds(town.calls() >= 20, "the example has twenty steps at least");
    }

    private static int[] numbers(String given, Map<String, Integer> names) {
        return Arrays.stream(given.split(", "))
                .mapToInt(one -> names.containsKey(one) ? names.get(one) : Integer.parseInt(one))
                .toArray();
    }

    /** The README tells every call of the face once, with as many numbers as it takes. */
    private static void calls(String text) {
        Set<String> told = new TreeSet<>();
        Matcher call = TOLD.matcher(text);
        while (call.find()) {
            String what = call.group(1) + " " + call.group(2).split(", ").length;
            Run.holds(told.add(what), what + " is told once");
        }
        Set<String> face = new TreeSet<>();
        for (Method method : NoiseLamps.class.getDeclaredMethods()) {
            if (Modifier.isPublic(method.getModifiers())) {
                face.add(method.getName() + " " + method.getParameterCount());
            }
        }
        Run.holds(told.equals(face), "all calls are told: " + told);
    }

    /** Each test and helper is named, the ones of the promises by the first and the last. */
    private static void tests(String text) throws IOException {
        try (var files = Files.list(Path.of("src/test/java"))) {
            for (Path file : (Iterable<Path>) files::iterator) {
                String name = file.getFileName().toString().replace(".java", "");
                boolean between = name.startsWith("Promise");
                Run.holds(between || text.contains("`" + name + "`"), "the README names " + name);
            }
        }
        Run.holds(text.contains("`Promise01NewObjectTest` .. `Promise24CountTest`"), "the promises' tests are named");
    }
}

import java.io.IOException;
import java.lang.reflect.Constructor;
import java.lang.reflect.Field;
import java.lang.reflect.Method;
import java.lang.reflect.Modifier;
import java.nio.charset.StandardCharsets;
import java.nio.file.Files;
import java.nio.file.Path;
import java.util.Arrays;
import java.util.Set;
import java.util.TreeSet;

/** What can be looked up of the rules of ../shared/LANGUAGE.md; it is run from the project's folder. */
final class LanguageTest {
    private static final Set<String> FACE = new TreeSet<>(Arrays.asList(
            "piece 5", "house 3", "wall 5", "fall 1", "malus 2", "gives 3", "level 2", "people 1", "loudest 2", "ranked 1",
            "needed 2", "recut 2", "lamp 2", "shines 1", "road 1", "dim 2", "at 3", "row 2", "spacing 2", "dark 2",
            "drop 3", "wired 3", "count 1"));
    private static final Set<String> LAMPS = new TreeSet<>(Arrays.asList(
            "lamp 2", "shines 1", "road 1", "dim 2", "at 3", "row 2", "spacing 2", "dark 2", "drop 3", "wired 3", "count 1"));

    public static void main(String[] args) throws IOException {
        face();
        classesInside();
        words();
        Run.end();
    }

    private static void face() {
        Class<?> type = NoiseLamps.class;
        Run.holds(Modifier.isFinal(type.getModifiers()) && Modifier.isPublic(type.getModifiers()), "public and final");
        Run.holds(NoiseLamps.BAD == -1, "BAD is -1");
        Set<String> found = new TreeSet<>();
        for (Method method : type.getDeclaredMethods()) {
            if (Modifier.isPrivate(method.getModifiers())) {
                continue;
            }
            Run.holds(Modifier.isPublic(method.getModifiers()), method + " is public or private");
            Run.holds(!Modifier.isStatic(method.getModifiers()), method + " is of an object");
            Run.holds(method.getReturnType() == int.class, method + " answers an int");
            for (Class<?> parameter : method.getParameterTypes()) {
                Run.holds(parameter == int.class, method + " takes ints");
            }
            found.add(method.getName() + " " + method.getParameterCount());
        }
        Run.holds(found.equals(FACE), "the public methods are the document's");
        for (Constructor<?> constructor : type.getDeclaredConstructors()) {
            boolean plain = Modifier.isPublic(constructor.getModifiers()) && constructor.getParameterCount() == 0;
            Run.holds(plain, "the constructor is the document's");
        }
        for (Field field : type.getDeclaredFields()) {
            boolean isBad = field.getName().equals("BAD") && Modifier.isPublic(field.getModifiers());
            Run.holds(isBad || Modifier.isPrivate(field.getModifiers()), field + " is private");
            looksRight(field);
        }
    }

    private static void classesInside() {
        for (Class<?> inside : NoiseLamps.class.getDeclaredClasses()) {
            int modifiers = inside.getModifiers();
            Run.holds(Modifier.isStatic(modifiers), inside + " is static");
            Run.holds(!Modifier.isPublic(modifiers) && !Modifier.isProtected(modifiers), inside + " is not public");
            int fields = 0;
            for (Field field : inside.getDeclaredFields()) {
                looksRight(field);
                fields += Modifier.isStatic(field.getModifiers()) ? 0 : 1;
            }
            Run.holds(fields <= 20, inside + " has some twenty fields at most");
            for (Method method : inside.getDeclaredMethods()) {
                Run.holds(method.getParameterCount() <= 7, method + " takes seven numbers at most");
                boolean asTheFace = FACE.stream().anyMatch(call -> call.startsWith(method.getName() + " "));
                Run.holds(!asTheFace, method + " has a name of its own");
            }
        }
    }

    private static void looksRight(Field field) {
        boolean changes = Modifier.isStatic(field.getModifiers()) && !Modifier.isFinal(field.getModifiers());
        Run.holds(!changes, field + " is final if static");
    }

    private static void words() throws IOException {
        byte[] bytes = Files.readAllBytes(Path.of("src/main/java/NoiseLamps.java"));
        String code = new String(bytes, StandardCharsets.ISO_8859_1).replaceAll("(?s)/\\*.*?\\*/", " ").replaceAll("//[^\n]*", " ");
        String[] words = {
            "throw", "throws", "try", "catch", "finally", "synchronized", "assert", "import", "package", "native",
            "volatile", "transient", "yield", "var", "System", "Thread", "Random", "instanceof",
        };
        for (String word : words) {
            Run.holds(!code.matches("(?s).*\\b" + word + "\\b.*"), "there is no " + word);
        }
        Run.holds(!code.contains("->") && !code.contains("::"), "there is no lambda and no method reference");
        Run.holds(code.chars().allMatch(sign -> sign < 128), "all signs are plain ones");
        onlyConstructorsMake(code);
        lampsHeading(new String(bytes, StandardCharsets.ISO_8859_1));
    }

    /** The document has the interface say ---- lamps ahead of the calls from lamp to count. */
    private static void lampsHeading(String text) {
        int heading = text.indexOf("// ---- lamps\n");
        Run.holds(heading > text.indexOf("public int recut("), "the calls of noise come first");
        for (String call : FACE) {
            int at = text.indexOf("public int " + call.replaceAll(" .*", "("));
            Run.holds(at >= 0 && at > heading == LAMPS.contains(call), call + " stands under its heading");
        }
    }

    /** All calls of a run live in one room, so what an object needs is made with it. */
    private static void onlyConstructorsMake(String code) {
        for (String line : code.split("\n")) {
            boolean field = line.trim().startsWith("private final") || line.trim().matches("(noise|lamps) = new \\w+\\(\\);");
            Run.holds(!line.matches(".*\\bnew\\b.*") || field, "made with the object: " + line.trim());
        }
    }
}

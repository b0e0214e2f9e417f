import java.io.IOException;
import java.nio.charset.StandardCharsets;
import java.nio.file.Files;
import java.nio.file.Path;
import java.util.ArrayList;
import java.util.LinkedHashMap;
import java.util.List;
import java.util.Map;
import java.util.regex.Matcher;
import java.util.regex.Pattern;

/**
 * The document, whose words are quoted by the tests of its boundary cases; it is read from the project's folder. It
 * tells which words of it name a boundary and aren't quoted by any test.
 */
final class Document {
    private static final Path FILE = Path.of("../shared/DOC.md");
    // Numbers, refused calls, and the words by which the document names an edge.
    private static final Pattern EDGE = Pattern.compile(
            "BAD: [^.]*\\.|\\d|above|below|beyond|at (least|most)|less than|more than|or more|without|cut off"
            + "|of (several|equal)|stays|ends count|up to|\\bNo\\b|\\bnone\\b|\\bnothing\\b|\\bas told");

    private final Map<String, String> texts = new LinkedHashMap<>();
    private final Map<String, boolean[]> quoted = new LinkedHashMap<>();

    Document() {
        for (String part : read().split("\n## ")) {
            int end = part.indexOf('\n');
            String heading = part.substring(0, Math.max(end, 0)).replaceAll(":.*", "");
            String text = part.substring(end + 1).replaceAll("(?m)^```.*$", " ").replaceAll("`[^`]*`:?", " ");
            texts.put(heading, text.replaceAll("\\s+", " "));
            quoted.put(heading, new boolean[texts.get(heading).length()]);
        }
    }

    /** Whether the words stand under the heading, and once only. */
    boolean quote(String heading, String words) {
        String text = texts.getOrDefault(heading, "");
        int at = text.indexOf(words);
        if (at < 0 || text.indexOf(words, at + 1) >= 0) {
            return false;
        }
        java.util.Arrays.fill(quoted.get(heading), at, at + words.length(), true);
        return true;
    }

    /** What names a boundary under a heading and isn't quoted, with some of the words around it. */
    List<String> unquoted(String heading) {
        List<String> found = new ArrayList<>();
        String text = texts.getOrDefault(heading, "");
        boolean[] done = quoted.getOrDefault(heading, new boolean[0]);
        Matcher edge = EDGE.matcher(text);
        while (edge.find()) {
            for (int at = edge.start(); at < edge.end(); at++) {
                if (!done[at] && Character.isLetterOrDigit(text.charAt(at))) {
                    found.add(text.substring(Math.max(0, at - 30), Math.min(text.length(), edge.end() + 30)));
                    break;
                }
            }
        }
        return found;
    }

    List<String> headings() {
        return new ArrayList<>(texts.keySet());
    }

    private static String read() {
        try {
            return Files.readString(FILE, StandardCharsets.UTF_8);
        } catch (IOException e) {
            throw new IllegalStateException("the document can't be read", e);
        }
    }
}

import java.io.IOException;
import java.nio.file.Files;
import java.nio.file.Path;
import java.util.ArrayList;
import java.util.LinkedHashMap;
import java.util.List;
import java.util.Map;
import java.util.regex.Matcher;
import java.util.regex.Pattern;

/** The document by its parts ("Terms I" .. "Terms V", "Promise 1" ..), and which of its words have a test. */
final class Document {
    private static final Path PLACE = Path.of("..", "shared", "DOC.md");
    private static final String[] PARTS = {"I", "II", "III", "IV", "V"};
    // Words by which a sentence names an edge.
    private static final Pattern EDGE = Pattern.compile(
        "\\d \\.\\. \\d|at most|at least|at first|up to|more than|no more|NONE|-2|[Ff]alse for|others|lowest"
        + "|latest|\\bnone\\b|[Nn]obody|[Ww]ithout|can't|if it can|as told|lowest terms|each once|towards 0|by 0"
        + "|the longest|is that|that can pass|beyond|there are \\d|empty|stays|mod ");

    private final Map<String, String> parts = new LinkedHashMap<>();
    private final Map<String, boolean[]> tested = new LinkedHashMap<>();

    Document() throws IOException {
        String all = Files.readString(PLACE);
        String terms = between(all, "\n## Terms\n", "\nThe constants:");
        for (int i = 0; i < PARTS.length; i++) {
            String from = i == 0 ? "" : "==== " + PARTS[i] + ".";
            String to = i + 1 < PARTS.length ? "==== " + PARTS[i + 1] + "." : "";
            add("Terms " + PARTS[i], between(terms, from, to));
        }
        Matcher heads = Pattern.compile("\n## Promise (\\d+): [^\n]*\n\n`[^`]*`:([^\n]*)").matcher(all);
        while (heads.find()) {
            add("Promise " + heads.group(1), heads.group(2));
        }
    }

    private static String between(String all, String from, String to) {
        int start = all.indexOf(from);
        int end = to.isEmpty() ? all.length() : all.indexOf(to, Math.max(0, start));
        if (start < 0 || end < 0) {
            throw new IllegalStateException("the document has no " + (start < 0 ? from : to));
        }
        return all.substring(start + from.length(), end);
    }

    private void add(String name, String text) {
        String plain = text.replace("```text", " ").replace("```", " ").replaceAll("\\s+", " ").trim();
        parts.put(name, plain);
        tested.put(name, new boolean[plain.length()]);
    }

    int count() {
        return parts.size();
    }

    /** Whether the part has these words; they have a test from now on. */
    boolean says(String part, String words) {
        String text = parts.getOrDefault(part, "");
        boolean found = false;
        for (int at = text.indexOf(words); at >= 0; at = text.indexOf(words, at + 1)) {
            found = true;
            for (int i = at; i < at + words.length(); i++) {
                tested.get(part)[i] = true;
            }
        }
        return found;
    }

    /** Each place that names an edge and stands in no test's name. */
    List<String> untested() {
        List<String> places = new ArrayList<>();
        for (Map.Entry<String, String> part : parts.entrySet()) {
            String text = part.getValue();
            Matcher edges = EDGE.matcher(text);
            while (edges.find()) {
                if (!tested.get(part.getKey())[edges.start()]) {
                    int from = Math.max(0, edges.start() - 50);
                    int to = Math.min(text.length(), edges.end() + 50);
                    places.add(part.getKey() + ": .. " + text.substring(from, to) + " ..");
                }
            }
        }
        return places;
    }
}

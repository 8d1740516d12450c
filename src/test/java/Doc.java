import java.io.IOException;
import java.nio.file.Files;
import java.nio.file.Path;
import java.util.Arrays;
import java.util.Map;
import java.util.TreeMap;

/** The document, part by part, and which of its words a test has quoted: none may be left without a test. */
final class Doc {
    private static final Map<String, String> PARTS = new TreeMap<>();
    private static final Map<String, boolean[]> QUOTED = new TreeMap<>();

    private Doc() { }

    /** Parts: "what", "1" to "3" by the document's ====, "p1" to "p37" the promises. */
    static void read() throws IOException {
        String path = System.getenv("WINKBANK_DOC");
        String all = Files.readString(Path.of(path == null ? "../shared/DOC.md" : path)).replaceAll("(?m)^```.*$", "");
        part("what", between(all, "==== 1.", "## The public face"));
        part("1", between(all, "## Terms", "==== 2."));
        part("2", between(all, "==== 2.", "==== 3."));
        part("3", between(all, "==== 3.", "## Promise 1:"));
        for (int i = 1; i <= 37; i++) {
            String promise = between(all, "## Promise " + i + ":", "\n## ");
            part("p" + i, between(promise, "`: ", null));
        }
    }

    private static String between(String all, String from, String to) {
        int start = all.indexOf(from);
        int end = to == null ? all.length() : all.indexOf(to, start + from.length());
        if (start < 0 || end < 0) {
            throw new AssertionError("the document has no " + from + " .. " + to);
        }
        return all.substring(start + from.length(), end);
    }

    private static void part(String name, String text) {
        String plain = text.replaceAll("\\s+", " ").trim();
        PARTS.put(name, plain);
        QUOTED.put(name, new boolean[plain.length()]);
    }

    /** The checks that follow are of this sentence, which must stand in that part to the letter. */
    static void says(String part, String words) {
        Check.about = "[" + part + "] \"" + words + "\": ";
        int at = PARTS.get(part).indexOf(words);
        Check.due("times it stands in the document, at least", at < 0 ? 0 : 1, 1);
        if (at >= 0) {
            Arrays.fill(QUOTED.get(part), at, at + words.length(), true);
        }
    }

    /** No word of the document is left that no test has quoted. */
    static void allQuoted() {
        for (Map.Entry<String, String> part : PARTS.entrySet()) {
            boolean[] quoted = QUOTED.get(part.getKey());
            StringBuilder left = new StringBuilder();
            for (int i = 0; i < quoted.length; i++) {
                left.append(quoted[i] ? '\n' : part.getValue().charAt(i));
            }
            String words = left.toString().replaceAll("[^A-Za-z0-9]*\n[^A-Za-z0-9]*", "\n").trim();
            Check.about = "[" + part.getKey() + "] without a test: \"" + words + "\": ";
            Check.due("signs left", words.replaceAll("[^A-Za-z0-9]", "").length(), 0);
        }
        Check.about = "";
    }
}

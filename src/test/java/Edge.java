import java.io.IOException;
import java.nio.file.Files;
import java.nio.file.Path;
import java.util.ArrayList;
import java.util.LinkedHashMap;
import java.util.List;
import java.util.Map;
import java.util.regex.Pattern;

/** The document's sentences, word by word: what is asked behind of(..) is the test of those words. */
final class Edge {
    static final String ROW = "prison cells 3 hours 4 row;";
    static final String RING = "prison cells 3 hours 4 ring;";
    static final String PLAIN = "cell friendly temper 0 left 0 right 0;";
    static final String LOYAL = "cell friendly temper 0 left 0 right 0 loyal;";
    static final String DEAF = "cell deaf temper 0 left 0 right 0;";

    // What is no sentence: a Term's number, the sign of a listing, what stands between sentences.
    private static final Pattern BETWEEN = Pattern.compile("\\b(I|II|III|IV)\\.|```text|[^A-Za-z0-9]");

    private static final Map<String, List<String>> SAID = new LinkedHashMap<>();

    private Edge() {
    }

    static void of(String heading, String words) {
        SAID.computeIfAbsent(heading, h -> new ArrayList<>()).add(words);
        Check.about(heading + ": " + words);
    }

    static void of(int promise, String words) {
        of("Promise " + promise, words);
    }

    /** Every quoted sentence is the document's, and no word of its Terms and promises is left without one. */
    static void matchDocument() throws IOException {
        Check.about("");
        Map<String, String> sections = sections();
        for (String heading : SAID.keySet()) {
            String section = sections.getOrDefault(heading, "");
            for (String words : SAID.get(heading)) {
                Check.holds(heading + " has the words: " + words, section.contains(words));
            }
        }
        for (int promise = 1; promise <= 67; promise++) {
            Check.holds("a sentence of promise " + promise, SAID.containsKey("Promise " + promise));
        }
        for (String heading : sections.keySet()) {
            nothingLeft(heading, sections.get(heading));
        }
    }

    private static void nothingLeft(String heading, String section) {
        StringBuilder left = new StringBuilder(section);
        for (String words : SAID.getOrDefault(heading, List.of())) {
            for (int at = section.indexOf(words); at >= 0; at = section.indexOf(words, at + 1)) {
                left.replace(at, at + words.length(), " ".repeat(words.length()));
            }
        }
        String untested = BETWEEN.matcher(left).replaceAll(" ").trim().replaceAll(" +", " ");
        Check.holds("all of " + heading + " has a test, also: " + untested, untested.isEmpty());
    }

    /** The text of each heading that promises something, its lines joined, without the signature ahead of it. */
    private static Map<String, String> sections() throws IOException {
        String doc = Files.readString(Path.of("../shared/DOC.md"));
        Map<String, String> sections = new LinkedHashMap<>();
        for (String part : doc.split("\n## ")) {
            String heading = part.substring(0, part.indexOf('\n'));
            String body = part.substring(part.indexOf('\n')).replaceAll("\\s+", " ");
            if (heading.startsWith("Promise ")) {
                sections.put(heading.substring(0, heading.indexOf(':')), body.substring(body.indexOf("`:") + 2));
            } else if (heading.equals("Terms")) {
                sections.put(heading, body);
            }
        }
        return sections;
    }
}

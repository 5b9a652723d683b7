import java.io.IOException;
import java.io.UncheckedIOException;
import java.nio.file.Files;
import java.nio.file.Path;
import java.util.HashMap;
import java.util.HashSet;
import java.util.Map;
import java.util.Set;
import java.util.regex.Pattern;

/** The document's sentences, and which of them a test has named. */
final class Document {
    /** Where the terms are told; the promises are told by their numbers. */
    static final int TERMS = 0;

    private static final int PROMISES = 43;
    private static final Pattern BOUNDARY = Pattern.compile("^Throws .*|^(- `|Returns ).*([0-9]|above|perhaps|there or not|in place of|not looked at|odd|counted|none|least|greatest|empty).*");
    private static final Map<Integer, String> SECTIONS = sections();
    private static final Map<Integer, Set<String>> NAMED = new HashMap<>();

    private Document() {
    }

    private static Map<Integer, String> sections() {
        String text;
        try {
            text = Files.readString(Path.of("../shared/DOC.md"));
        } catch (IOException e) {
            throw new UncheckedIOException(e);
        }
        Map<Integer, String> sections = new HashMap<>();
        for (String section : text.split("(?m)^## ")) {
            if (section.startsWith("Terms")) {
                sections.put(TERMS, section);
            } else if (section.startsWith("Promise ")) {
                sections.put(Integer.parseInt(section.substring(8, section.indexOf(':'))), section);
            }
        }
        return sections;
    }

    /** What is asked next holds the class to these sentences, which stand in the document. */
    static void says(int promise, String... sentences) {
        String where = promise == TERMS ? "Terms" : "Promise " + promise;
        Due.about(where + ": " + sentences[0]);
        String section = SECTIONS.get(promise).replaceAll("\\s+", " ");
        for (String sentence : sentences) {
            Due.yes("the document says: " + sentence, section.contains(sentence));
            NAMED.computeIfAbsent(promise, p -> new HashSet<>()).add(sentence);
        }
    }

    /** Of what is asked next several exceptions apply. */
    static void saysFirst(int promise) {
        says(TERMS, "If several exceptions apply, the one that is documented first is thrown.");
        Due.about("Promise " + promise + ": the exception that is documented first");
    }

    /** Each row of a promise that names a boundary was named by a test. */
    static void allNamed() {
        Due.about("");
        Due.is("how many promises are read", SECTIONS.size(), PROMISES + 1);
        for (int promise = 1; promise <= PROMISES; promise++) {
            Set<String> named = NAMED.getOrDefault(promise, Set.of());
            for (String row : SECTIONS.get(promise).split("\n")) {
                if (BOUNDARY.matcher(row).matches()) {
                    String sentence = row.startsWith("- ") ? row.substring(2) : row;
                    Due.yes("promise " + promise + ", named by a test: " + sentence, named.contains(sentence));
                }
            }
        }
    }
}

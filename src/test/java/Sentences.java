import java.nio.file.Files;
import java.nio.file.Path;
import java.util.ArrayList;
import java.util.HashMap;
import java.util.List;
import java.util.Map;

/** Ties tests to the document: each names the sentence that it is about, which must stand there. */
final class Sentences {
    private static final String TERMS = "Terms";
    private static final Map<String, String> SECTIONS = sections();
    private static final List<String> quoted = new ArrayList<>();

    private Sentences() {
    }

    private static Map<String, String> sections() {
        Map<String, String> sections = new HashMap<>();
        try {
            for (String part : Files.readString(Path.of("../shared/DOC.md")).split("\n## ")) {
                String heading = part.substring(0, part.indexOf('\n'));
                sections.put(heading.replaceAll(":.*", ""), part);
            }
        } catch (java.io.IOException e) {
            throw new java.io.UncheckedIOException(e);
        }
        return sections;
    }

    static void aboutTerms(String sentence) {
        about(TERMS, sentence);
    }

    static void about(int promise, String sentence) {
        about("Promise " + promise, sentence);
    }

    /** The checks behind this call, up to the next one, are about this sentence. */
    private static void about(String section, String sentence) {
        Check.about(section + " \"" + sentence + "\"");
        boolean stands = SECTIONS.getOrDefault(section, "").contains(sentence);
        Check.due("stands in the document", true, () -> stands);
        quoted.add(section + " " + sentence);
    }

    /** Each line of a promise that the pattern matches must have been quoted, or a part of it. */
    static void allQuoted(String pattern) {
        Check.about("The document");
        for (int promise = 1; promise <= 59; promise++) {
            String section = "Promise " + promise;
            for (String line : SECTIONS.getOrDefault(section, "").split("\n")) {
                if (line.matches(pattern)) {
                    Check.due(section + " <" + line + "> has a test", true,
                            () -> isQuoted(section, line));
                }
            }
        }
    }

    private static boolean isQuoted(String section, String line) {
        return quoted.stream().anyMatch(quote -> quote.startsWith(section + " ")
                && line.contains(quote.substring(section.length() + 1)));
    }
}

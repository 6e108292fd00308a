import java.nio.file.Files;
import java.nio.file.Path;
import java.util.ArrayList;
import java.util.Arrays;
import java.util.LinkedHashMap;
import java.util.List;
import java.util.Map;

/** Ties tests to the document: each names the sentence that it is about, which must stand there. */
final class Sentences {
    private static final String WHAT_IT_IS = "What it is";
    private static final String TERMS = "Terms";
    private static final Map<String, String> SECTIONS = sections();
    private static final List<String> quoted = new ArrayList<>();

    /** The document's title, the face (see FaceTest), and what is not promised. */
    private static final List<String> WITHOUT_SENTENCES =
            List.of("# PastureBanker", "The public face", "Not promised");
    /** A section's heading, a call of the face before its sentences, and titles of paragraphs. */
    private static final String NO_SENTENCES = "^[^\n]*\n|(?m)^`[^`]*`:|^A manager of grazing rights "
            + "on shared pastures\\.$|^(Pastures and herds|Safe states|Requests|Deadlocks|Debts|Texts"
            + "|Errors|Undo)\\.";

    private Sentences() {
    }

    private static Map<String, String> sections() {
        Map<String, String> sections = new LinkedHashMap<>();
        try {
            for (String part : Files.readString(Path.of("../shared/DOC.md")).split("\n## ")) {
                String heading = part.substring(0, part.indexOf('\n'));
                sections.put(heading.replaceAll(":.*", ""), part);
            }
        } catch (java.io.IOException e) {
            throw new java.io.UncheckedIOException(e);
        }
        return sections;
    }

    static String terms() {
        return SECTIONS.get(TERMS);
    }

    static void aboutWhatItIs(String sentence) {
        about(WHAT_IT_IS, sentence);
    }

    static void aboutTerms(String sentence) {
        about(TERMS, sentence);
    }

    static void about(int promise, String sentence) {
        about("Promise " + promise, sentence);
    }

    /** The checks behind this call, up to the next one, are about this sentence. */
    private static void about(String section, String sentence) {
        Check.about(section + " \"" + sentence + "\"");
        boolean stands = SECTIONS.getOrDefault(section, "").contains(sentence);
        Check.due("stands in the document", true, () -> stands);
        quoted.add(section + " " + sentence);
    }

    /** Each line of a promise that the pattern matches must have been quoted, or a part of it. */
    static void allQuoted(String pattern) {
        Check.about("The document");
        for (int promise = 1; promise <= 59; promise++) {
            String section = "Promise " + promise;
            for (String line : SECTIONS.getOrDefault(section, "").split("\n")) {
                if (line.matches(pattern)) {
                    Check.due(section + " <" + line + "> has a test", true,
                            () -> isQuoted(section, line));
                }
            }
        }
    }

    private static boolean isQuoted(String section, String line) {
        return quoted.stream().anyMatch(quote -> quote.startsWith(section + " ")
                && line.contains(quote.substring(section.length() + 1)));
    }

    /** Each word of each sentence of the document must stand in one of the quotes. */
    static void allSentencesQuoted() {
        Check.about("The document");
        SECTIONS.forEach((section, text) -> {
            if (!WITHOUT_SENTENCES.contains(section)) {
                Check.due(section + ", words without a test", "", () -> unquoted(section, text));
            }
        });
        Check.due("sections", 64, SECTIONS::size);
    }

    private static String unquoted(String section, String text) {
        char[] left = text.toCharArray();
        for (String quote : quoted) {
            if (quote.startsWith(section + " ")) {
                String sentence = quote.substring(section.length() + 1);
                int from = text.indexOf(sentence);
                while (from >= 0) {
                    Arrays.fill(left, from, from + sentence.length(), ' ');
                    from = text.indexOf(sentence, from + 1);
                }
            }
        }
        String rest = new String(left).replaceAll(NO_SENTENCES, "");
        return rest.replaceAll("[^A-Za-z0-9]+", " ").trim();
    }
}

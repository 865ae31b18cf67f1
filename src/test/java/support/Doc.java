import java.io.IOException;
import java.io.UncheckedIOException;
import java.nio.file.Files;
import java.nio.file.Path;
import java.util.ArrayList;
import java.util.LinkedHashMap;
import java.util.LinkedHashSet;
import java.util.List;
import java.util.Map;
import java.util.Set;

/**
 * The document's sentences, by its headings. A test says which sentence it is for; a sentence under
 * a heading that a test has opened, and that no test is for, counts as wrong, and so does a sentence
 * that is not in the document.
 */
final class Doc {
    private static final Path PAGE = Path.of("../shared/DOC.md");
    private static final String TITLE = "Springward";
    private static final Map<String, List<String>> PAGES = read();
    private static final Map<String, List<String>> LEFT = new LinkedHashMap<>();

    private static String heading = "";

    private Doc() {
    }

    /** The sentences that follow stand under this heading. */
    static void under(String title) {
        heading = title;
        LEFT.computeIfAbsent(title, t -> new ArrayList<>(PAGES.getOrDefault(t, List.of())));
    }

    /** What is tested next is told by the sentence that begins so. */
    static void says(String start) {
        boolean stands = PAGES.getOrDefault(heading, List.of()).stream().anyMatch(s -> s.startsWith(start));
        Check.equal("under " + heading + " stands: " + start, "" + stands, "true");
        LEFT.get(heading).removeIf(s -> s.startsWith(start));
    }

    /** The sentence that begins so tells nothing that a call could answer. */
    static void saysNoAnswer(String start) {
        says(start);
    }

    /** All headings of the document but its title. */
    static Set<String> headings() {
        Set<String> titles = new LinkedHashSet<>(PAGES.keySet());
        titles.remove(TITLE);
        return titles;
    }

    /** The lines of the class's face, as they stand in the document. */
    static List<String> face() {
        List<String> face = new ArrayList<>();
        boolean inCode = false;
        for (String line : lines()) {
            if (line.startsWith("```")) {
                inCode = !inCode;
            } else if (inCode) {
                face.add(line.trim());
            }
        }
        return face;
    }

    static void end() {
        LEFT.forEach((title, left) -> Check.equal(title + ", without a test", left.toString(), "[]"));
        Check.end();
    }

    private static Map<String, List<String>> read() {
        Map<String, List<String>> pages = new LinkedHashMap<>();
        List<String> page = new ArrayList<>();
        boolean inCode = false;
        for (String line : lines()) {
            if (line.startsWith("```")) {
                inCode = !inCode;
            } else if (line.startsWith("#")) {
                page = new ArrayList<>();
                pages.put(line.replaceFirst("#+ ", ""), page);
            } else if (!inCode && !line.isBlank()) {
                // "1. By rising cells" is one sentence.
                page.addAll(List.of(line.split("(?<=[.;])(?<!^\\d\\.) ")));
            }
        }
        return pages;
    }

    private static List<String> lines() {
        try {
            return Files.readAllLines(PAGE);
        } catch (IOException e) {
            throw new UncheckedIOException(e);
        }
    }
}

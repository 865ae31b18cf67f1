import java.io.IOException;
import java.nio.file.Files;
import java.nio.file.Path;
import java.util.List;
import java.util.Set;
import java.util.TreeSet;
import java.util.regex.Matcher;
import java.util.regex.Pattern;
import java.util.stream.Stream;

/** A test is for each heading of the document; the sentences under it are counted by that test. */
public final class HeadingsTest {
    private static final Path TESTS = Path.of("src/test/java");
    private static final Pattern OPENED = Pattern.compile("Doc\\.under\\(\"([^\"]+)\"\\)");

    private HeadingsTest() {
    }

    public static void main(String[] args) throws IOException {
        Set<String> opened = new TreeSet<>();
        for (Path file : tests()) {
            String text = Files.readString(file);
            Matcher under = OPENED.matcher(text);
            boolean isForHeadings = false;
            while (under.find()) {
                opened.add(under.group(1));
                isForHeadings = true;
            }
            // Without it, sentences that no test is for would not be counted.
            if (isForHeadings) {
                Check.equal(file + " ends by Doc.end", "" + text.contains("        Doc.end();\n    }"), "true");
            }
        }
        Check.equal("headings", opened.toString(), new TreeSet<>(Doc.headings()).toString());
        Check.equal("promises", "" + Doc.headings().stream().filter(h -> h.startsWith("Promise ")).count(), "25");
        Check.end();
    }

    private static List<Path> tests() throws IOException {
        try (Stream<Path> files = Files.list(TESTS)) {
            return files.filter(file -> file.toString().endsWith("Test.java")).toList();
        }
    }
}

import java.io.IOException;
import java.nio.file.Files;
import java.nio.file.Path;

/** Words and signs that ../shared/LANGUAGE.md rules out do not stand in the program. */
public final class SourceTest {
    private static final Path PROGRAM = Path.of("src/main/java/Springward.java");

    private static final String[] RULED_OUT = {"\\bimport\\b", "\\bpackage\\b", "->", "::", "\\btry\\b",
        "\\bcatch\\b", "\\bfinally\\b", "\\bsynchronized\\b", "\\bassert\\b", "\\bvar\\b", "Exact\\(",
        "\\bprotected\\b", "\\bSystem\\.(?!arraycopy)", "\\bjava\\.", "\\bObject\\b", "\\bhashCode\\b",
        "\\btoString\\b", "\\bMath\\.(random|sqrt|pow|round)", "\\bvolatile\\b", "\\bThread\\b",
        "static \\{", "\" \\+", "\\+ \"", "[^\\x00-\\x7f]"};

    private SourceTest() {
    }

    public static void main(String[] args) throws IOException {
        String text = Files.readString(PROGRAM).replaceAll("(?s)/\\*.*?\\*/|//[^\n]*", "");
        for (String sign : RULED_OUT) {
            boolean stands = java.util.regex.Pattern.compile(sign).matcher(text).find();
            Check.equal("the program has " + sign, "" + stands, "false");
        }
        Check.equal("exceptions are those of the document",
                text.replaceAll("throw new (IndexOutOfBounds|IllegalArgument|IllegalState)Exception\\(\"", "")
                        .contains("throw new") + "", "false");
        Check.end();
    }
}

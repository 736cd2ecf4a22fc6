import java.io.IOException;
import java.nio.charset.StandardCharsets;
import java.nio.file.Files;
import java.nio.file.Path;
import java.util.List;

/** Those rules of ../shared/LANGUAGE.md that can be seen from the program's lines. */
public final class RulesTest {
    private static final Path SOURCE = Path.of("src/main/java/Slidingtray.java");
    private static final String[] BARRED = {
        "->", "::", "synchronized", "assert ", "finally", "try {", "catch (", "Exact(", "@", "<?", "package ",
        "protected ", "Object", ".equals(", "hashCode", "toString", "System.out", "Random", "nanoTime", "Thread",
        "NaN", "abstract static", "static {", "while (true)", "MAX_VALUE", "MIN_VALUE", " var ",
    };
    private static final List<String> IMPORTS = List.of(
            "import java.util.Arrays;", "import java.util.NoSuchElementException;");

    public static void main(String[] args) throws IOException {
        List<String> lines = Files.readAllLines(SOURCE, StandardCharsets.US_ASCII);
        int classes = 0;
        int longest = 0;
        int length = 0;
        for (String line : lines) {
            for (String word : BARRED) {
                Check.holds("'" + word + "' stands in: " + line, !line.contains(word));
            }
            if (line.startsWith("import ")) Check.holds(line, IMPORTS.contains(line));
            if (line.contains("class ") && line.endsWith("{")) classes++;
            Check.holds("too long: " + line, line.length() <= 120);
            // A method's body stands four or eight blanks in; it ends where a brace stands there alone.
            length = line.matches(" {4}( {4})?}") || line.isBlank() ? 0 : length + 1;
            longest = Math.max(longest, length);
            if (line.contains("(") && line.endsWith("{") && line.matches(" {4}( {4})?[a-zA-Z].*")) {
                Check.holds("too many parameters: " + line, line.split(",").length <= 7);
            }
            if (line.matches(".*\\bstatic\\b.*[=;].*") && !line.contains("(")) {
                Check.holds("not final: " + line, line.contains("final"));
            }
        }
        Check.holds(classes + " classes", classes <= 12);
        Check.holds("a method of " + longest + " lines", longest <= 60);
        Check.end();
    }
}

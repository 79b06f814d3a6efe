import java.nio.file.Files;
import java.nio.file.Path;
import java.util.List;
import java.util.regex.Matcher;
import java.util.regex.Pattern;

/** Rules of LANGUAGE.md that the text of the class can be held against. */
public final class LanguageTest {
    private static final Due due = new Due("LanguageTest");
    private static final List<String> FORBIDDEN = List.of(
        "\\b(throw|throws|try|catch|synchronized|assert|volatile|transient|native|package|protected)\\b",
        "->", "::", "\\w+Exact\\b", "\\.(equals|hashCode|toString)\\(", "\\b(var|Object|Random|Thread|System\\.(?!arraycopy)\\w+)\\b",
        "\\bfloat\\b|\\bdouble\\b", "\\bstatic\\s*\\{", "while \\(true\\)", "for \\(;;\\)", "\\bimport (?!java\\.util\\.Arrays;)");

    /** The text without comments and without what stands in texts and signs. */
    private static String code(String source) {
        return source.replaceAll("(?s)/\\*.*?\\*/", " ").replaceAll("//[^\n]*", " ")
            .replaceAll("\"[^\"\n]*\"", "\"\"").replaceAll("'[^'\n]'", "' '");
    }

    /** How many lines the longest method has. */
    private static int longest(String code) {
        int most = 0;
        int began = 0;
        String[] lines = code.split("\n");
        for (int i = 0; i < lines.length; i++) {
            if (lines[i].matches("( {4}| {8})\\w[^=;]*\\) \\{")) {
                began = i;
            }
            if (lines[i].matches("( {4}| {8})\\}") && began > 0) {
                most = Math.max(most, i - began + 1);
                began = 0;
            }
        }
        return most;
    }

    public static void main(String[] args) throws Exception {
        String source = Files.readString(Path.of("src/main/java/ProvenRows.java"));
        String code = code(source);
        for (String forbidden : FORBIDDEN) {
            Matcher found = Pattern.compile(forbidden).matcher(code);
            boolean is = found.find();
            due.is("seen: " + forbidden + (is ? " '" + found.group() + "'" : ""), is ? 1 : 0, 0);
        }
        due.is("signs are 1 to 127", source.chars().allMatch(c -> c > 0 && c < 128) ? 1 : 0, 1);
        int most = longest(code);
        due.is("the longest method has " + most + " lines", most > 5 && most <= 60 ? 1 : 0, 1);
        due.end();
    }
}

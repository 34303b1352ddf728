import java.io.IOException;
import java.nio.file.Files;
import java.nio.file.Path;
import java.util.regex.Matcher;
import java.util.regex.Pattern;

/** What of ../shared/LANGUAGE.md can be seen in the text of the class. */
public final class LanguageTest {
    private static final String[] FORBIDDEN = {
        "\\b(throw|throws|try|catch|finally|synchronized|assert|import|package|protected)\\b",
        "->", "::", "\\bstatic\\s*\\{", "\\b(Object|System|Thread|Exception|Random|var)\\b",
        "\\bMath\\.(?!min\\b|max\\b|abs\\b)", "\\w+Exact\\b", "\"",
        "\\bstatic (?!final\\b|class\\b)[\\w\\[\\]<>]+ \\w+\\s*(=|;)", "\\bwhile \\(true\\)",
        "\\bfor \\(;;\\)", "[^\\x00-\\x7f]",
    };
    private static final int MOST_LINES = 60;

    public static void main(String[] args) throws IOException {
        Checks checks = new Checks("LanguageTest");
        String text = Files.readString(Path.of("src/main/java/PaperKinds.java"));
        String code = text.replaceAll("(?s)/\\*.*?\\*/", "").replaceAll("//[^\n]*", "");
        for (String pattern : FORBIDDEN) {
            Matcher matcher = Pattern.compile(pattern).matcher(code);
            boolean found = matcher.find();
            checks.due((found ? matcher.group() : pattern) + " stands in the class", found, false);
        }
        checks.due("longest method", longestMethod(text) <= MOST_LINES, true);
        checks.end();
    }

    /** By the indents: a method's head ends in an opening brace, its end stands below it. */
    private static int longestMethod(String text) {
        String[] lines = text.split("\n");
        int longest = 0;
        for (int start = 0; start < lines.length; start++) {
            String indent = lines[start].replaceAll("\\S.*", "");
            boolean head = (indent.length() == 4 || indent.length() == 8)
                    && lines[start].endsWith("{") && !lines[start].contains(" class ");
            for (int end = start; head && end < lines.length; end++) {
                if (lines[end].equals(indent + "}")) {
                    longest = Math.max(longest, end - start + 1);
                    break;
                }
            }
        }
        return longest;
    }
}

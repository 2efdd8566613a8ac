import java.io.IOException;
import java.nio.file.Files;
import java.nio.file.Path;
import java.util.List;
import java.util.Set;
import java.util.regex.Matcher;
import java.util.regex.Pattern;

/** What of LANGUAGE.md can be seen in the text of the class itself; run where src is. */
public final class LanguageTest {
    private static final Set<String> IMPORTS = Set.of("import java.util.Arrays;", "import java.util.NoSuchElementException;");
    private static final String[] FORBIDDEN = {"->", "::", "\\bcatch\\b", "\\btry\\b", "\\bfinally\\b", "\\bsynchronized\\b", "\\bassert\\b",
        "\\bnative\\b", "\\bthis\\s*\\)", "\\bvar\\b", "\\bObject\\b", "\\bThread\\b", "\\bsuper\\b", "@\\w+", "\\bgetClass\\b", "Exact\\(",
        "\\.equals\\(", "\\bhashCode\\b", "\\btoString\\b", "\\bString\\.", "\\bFloat\\b", "\\bDouble\\b", "\\bpackage\\b", "\\bprotected\\b",
        "\"\\s*\\+", "\\+\\s*\"", "\\bstatic\\s*\\{", "\\bvolatile\\b", "\\bMap\\b", "\\bSet\\b", "\\bMath\\.(?!min\\(|max\\(|abs\\()",
        "\\bSystem\\.(?!arraycopy\\()", "\\bArrays\\.(?!fill\\()"};
    private static final Pattern METHOD = Pattern.compile("^( {4}| {8})(?!(private |public )?(static )?(final )?(class|enum) )[a-z].*\\{$");

    public static void main(String[] args) throws IOException {
        List<String> lines = Files.readAllLines(Path.of("src/main/java/HotSteps.java"));
        boolean inComment = false;
        int start = -1;
        String indent = "";
        for (int i = 0; i < lines.size(); i++) {
            String line = lines.get(i);
            Check.due("line " + (i + 1) + " is of signs 9 to 126", line.chars().allMatch(c -> c >= 32 && c < 127) ? 1 : 0, 1);
            if (line.startsWith("import ")) {
                Check.due("line " + (i + 1) + ": " + line, IMPORTS.contains(line) ? 1 : 0, 1);
            }
            String code = line.replaceAll("//.*", "").replaceAll("/\\*.*?\\*/", "");
            inComment = inComment || code.contains("/**");
            if (!inComment) {
                look(i + 1, code);
            }
            if (code.contains("*/")) {
                inComment = false;
            }
            Matcher method = METHOD.matcher(line);
            if (start < 0 && method.matches() && line.contains("(") && !line.trim().startsWith("//")) {
                start = i;
                indent = method.group(1);
            } else if (start >= 0 && line.equals(indent + "}")) {
                Check.due("the method of line " + (start + 1) + " is at most sixty lines", Math.max(60, i - start + 1), 60);
                start = -1;
            }
        }
        Check.end("LanguageTest");
    }

    private static void look(int number, String code) {
        for (String pattern : FORBIDDEN) {
            if (Pattern.compile(pattern).matcher(code).find()) {
                Check.fault("line " + number + " has " + pattern + ": " + code.trim());
            }
        }
        Matcher thrown = Pattern.compile("\\bthrow\\b(.*)").matcher(code);
        if (thrown.find()) {
            Check.due("line " + number + " throws what is allowed: " + code.trim(),
                thrown.group(1).matches(" new (IllegalArgumentException|NoSuchElementException)\\((\"[^\"]*\")?\\);") ? 1 : 0, 1);
        }
    }
}

import java.io.IOException;
import java.nio.file.Files;
import java.nio.file.Path;
import java.util.regex.Matcher;
import java.util.regex.Pattern;

/** The rules of LANGUAGE.md that a plain reading of the file can show. */
public final class LanguageTest {
    private static final Due DUE = new Due("LanguageTest");

    public static void main(String[] args) throws IOException {
        String source = Files.readString(Path.of("src/main/java/RisingPiles.java"));
        String code = source.replaceAll("(?s)/\\*.*?\\*/", "").replaceAll("//[^\n]*", "");
        none(code, "rule 1", "\\bpackage\\b|\\bprotected\\b|\\bimport\\b");
        none(code, "rule 2", "->|::|\\bnew \\w+\\([^)]*\\) *\\{|private (final )?class\\b");
        none(code, "rule 3", "\\bvar\\b|\\bObject\\b|\\[\\]\\[\\]\\[\\]");
        none(code, "rule 4", "\\b(?:java|javax)\\.|\\b(?:HashMap|Random|Collections|Objects|Optional|String\\.format)\\b");
        none(code, "rule 5", "\\bstatic \\{|\\bstatic (?!final\\b)\\w+(?:\\[\\])* \\w+(?: =|;)");
        none(code, "rule 6", "\\b(?:throws?|try|catch|finally|synchronized|assert|equals|hashCode|toString)\\b");
        none(code, "rule 9", "\\bwhile\\b|for \\(;;|for \\([^;]*;\\s*;");
        none(code, "rule 13", "nanoTime|currentTimeMillis|\\bThread\\b|getenv|getProperty");
        DUE.isTrue("rule 3: characters of the file", source.chars().allMatch(c -> c == '\n' || (c >= 32 && c < 127)));
        DUE.isTrue("rule 11: at most twelve classes", count(code, "\\bclass \\w+") <= 12);
        longMethods(code);
        DUE.end();
    }

    private static void none(String code, String rule, String pattern) {
        Matcher matcher = Pattern.compile(pattern).matcher(code);
        boolean found = matcher.find();
        DUE.isTrue(rule + " is kept" + (found ? ", but for: " + matcher.group() : ""), !found);
    }

    private static int count(String code, String pattern) {
        return (int) Pattern.compile(pattern).matcher(code).results().count();
    }

    /** A method ends at the brace that stands as far in as its first line. */
    private static void longMethods(String code) {
        Pattern method = Pattern.compile("(?m)^( +)(?!.*\\bclass\\b)\\S[^\n;=]*\\) \\{\n(?s:.*?)^\\1\\}$");
        Matcher matcher = method.matcher(code);
        int methods = 0;
        while (matcher.find()) {
            methods++;
            DUE.isTrue("rule 11: short is " + matcher.group().split("\n")[0].trim(), matcher.group().lines().count() <= 60);
        }
        DUE.isTrue("methods were found", methods > 24);
    }
}

import java.io.IOException;
import java.nio.file.Files;
import java.nio.file.Path;
import java.util.regex.Matcher;
import java.util.regex.Pattern;

/** The rules of LANGUAGE.md that a plain reading of the file can show, and no stricter than they are written. */
public final class LanguageTest {
    private static final Due DUE = new Due("LanguageTest");

    public static void main(String[] args) throws IOException {
        String source = Files.readString(Path.of("src/main/java/RisingPiles.java"));
        String code = bare(source);
        none(code, "rule 1", "\\bpackage\\b|\\bprotected\\b|\\bimport (?!java\\.util\\.(?:ArrayList|List|Arrays|Iterator);)");
        none(code, "rule 2", "(?m)::|\\bnew \\w+\\([^)]*\\) *\\{|^ +(?:(?!static)\\w+ )*class\\b|^(?!.*\\b(?:case|default)\\b).*->");
        none(code, "rule 3", "\\bObject\\b|\\[\\]\\[\\]\\[\\]|\\[\\w*\\] *\\[\\w*\\] *\\[");
        none(code, "rule 4", "\\b(?:HashMap|Random|Collections|Objects|Optional|StringBuffer|Scanner|Stream)\\b|\\w+Exact\\b|\\.format\\(");
        none(code, "rule 5", "\\bstatic \\{|\\bstatic (?!final\\b)\\w+(?:\\[\\])* \\w+(?: =|;)");
        none(code, "rule 6", "\\b(?:throws?|try|catch|finally|synchronized|assert)\\b"
            + "|\\b(?:boolean equals|int hashCode|String toString) *\\(");
        none(code, "rule 9", "while \\(true\\)|for \\([^;)]*; *;");
        none(code, "rule 11: at most seven parameters", "\\w+ \\w+\\((?:[^(),]*,){7}[^()]*\\) *\\{");
        none(code, "rule 13", "nanoTime|currentTimeMillis|\\bThread\\b|getenv|getProperty|\\bjava\\.(?:io|nio|net)\\b");
        DUE.isTrue("rule 4: characters of constants", source.replaceAll("(?s)/\\*.*?\\*/|//[^\n]*", "").chars()
            .allMatch(c -> c == '\n' || c >= 32 && c < 127));
        DUE.isTrue("rule 11: some twelve classes", count(code, "\\b(?:class|record|enum|interface) \\w+") <= 14);
        longMethods(code);
        DUE.end();
    }

    /** Without comments, and with empty texts. */
    private static String bare(String source) {
        return source.replaceAll("(?s)/\\*.*?\\*/", "").replaceAll("//[^\n]*", "").replaceAll("\"(?:[^\"\\\\\n]|\\\\.)*\"", "\"\"");
    }

    private static void none(String code, String rule, String pattern) {
        Matcher matcher = Pattern.compile(pattern).matcher(code);
        boolean found = matcher.find();
        DUE.isTrue(rule + " is kept" + (found ? ", but for: " + matcher.group() : ""), !found);
    }

    private static int count(String code, String pattern) {
        return (int) Pattern.compile(pattern).matcher(code).results().count();
    }

    /** A method ends at the brace that stands as far in as its first line. */
    private static void longMethods(String code) {
        Pattern method = Pattern.compile("(?m)^( +)(?!.*\\bclass\\b)\\S[^\n;=]*\\) \\{\n(?s:.*?)^\\1\\}$");
        Matcher matcher = method.matcher(code);
        while (matcher.find()) {
            DUE.isTrue("rule 11: short is " + matcher.group().split("\n")[0].trim(), matcher.group().lines().count() <= 64);
        }
    }
}

import java.io.IOException;
import java.nio.file.Files;
import java.nio.file.Path;
import java.util.regex.Matcher;
import java.util.regex.Pattern;

/**
 * The rules of LANGUAGE.md that a plain reading of the file can show, and no stricter than they are written; and one
 * thing that is this program's own choice, that no call makes an object.
 */
public final class LanguageTest {
    private static final Due DUE = new Due("LanguageTest");
    /** A method ends at the brace that stands as far in as its first line. */
    private static final Pattern METHOD =
        Pattern.compile("(?m)^( +)(?!.*\\bclass\\b)\\S[^\n;=]*\\) \\{\n(?s:.*?)^\\1\\}$");

    public static void main(String[] args) throws IOException {
        String source = Files.readString(Path.of("src/main/java/RisingPiles.java"));
        String code = bare(source);
        none(code, "rule 1", "\\bpackage\\b|\\bprotected\\b|\\bimport (?!java\\.util\\.(?:ArrayList|List|Arrays|Iterator);)");
        none(code, "rule 2", "(?m)::|\\bnew \\w+\\([^)]*\\) *\\{|^ +(?:(?!static)\\w+ )*class\\b|^(?!.*\\b(?:case|default)\\b).*->");
        none(code, "rule 3", "\\bObject\\b|\\[\\]\\[\\]\\[\\]|\\[\\w*\\] *\\[\\w*\\] *\\[");
        none(code, "rule 4", "\\b(?:HashMap|Random|Collections|Objects|Optional|StringBuffer|Scanner|Stream)\\b|\\w+Exact\\b|\\.format\\(");
        none(code, "rule 5", "\\bstatic \\{|\\bstatic (?!final\\b)\\w+(?:\\[\\])* \\w+(?: =|;)");
        none(code, "rule 6", "\\b(?:throws?|try|catch|finally|synchronized|assert)\\b"
            + "|\\b(?:boolean equals|int hashCode|String toString) *\\(");
        none(code, "rule 9", "while \\(true\\)|for \\([^;)]*; *;");
        none(code, "rule 11: at most seven parameters", "\\w+ \\w+\\((?:[^(),]*,){7}[^()]*\\) *\\{");
        none(code, "rule 13", "nanoTime|currentTimeMillis|\\bThread\\b|getenv|getProperty|\\bjava\\.(?:io|nio|net)\\b");
        DUE.isTrue("rule 4: characters of constants", source.replaceAll("(?s)/\\*.*?\\*/|//[^\n]*", "").chars()
            .allMatch(c -> c == '\n' || c >= 32 && c < 127));
        DUE.isTrue("rule 11: some twelve classes", count(code, "\\b(?:class|record|enum|interface) \\w+") <= 14);
        longMethods(code);
        madeInConstructors(code);
        DUE.end();
    }

    /** Without comments, and with empty texts. */
    private static String bare(String source) {
        return source.replaceAll("(?s)/\\*.*?\\*/", "").replaceAll("//[^\n]*", "").replaceAll("\"(?:[^\"\\\\\n]|\\\\.)*\"", "\"\"");
    }

    private static void none(String code, String rule, String pattern) {
        Matcher matcher = Pattern.compile(pattern).matcher(code);
        boolean found = matcher.find();
        DUE.isTrue(rule + " is kept" + (found ? ", but for: " + matcher.group() : ""), !found);
    }

    private static int count(String code, String pattern) {
        return (int) Pattern.compile(pattern).matcher(code).results().count();
    }

    private static void longMethods(String code) {
        Matcher matcher = METHOD.matcher(code);
        while (matcher.find()) {
            DUE.isTrue("rule 11: short is " + matcher.group().split("\n")[0].trim(), matcher.group().lines().count() <= 64);
        }
    }

    /** All calls of a run live in one room: what no call makes need not be counted. */
    private static void madeInConstructors(String code) {
        Matcher matcher = METHOD.matcher(code);
        while (matcher.find()) {
            String first = matcher.group().split("\n")[0].trim();
            boolean makes = Pattern.compile("\\bnew\\b|\\.clone\\(|\\bcopyOf").matcher(matcher.group()).find();
            DUE.isTrue("no call makes an object: " + first, !makes || first.matches("(?:public )?[A-Z]\\w*\\(\\) \\{"));
        }
    }
}

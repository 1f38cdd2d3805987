import java.io.IOException;
import java.nio.file.Files;
import java.nio.file.Path;
import java.util.ArrayList;
import java.util.LinkedHashMap;
import java.util.List;
import java.util.Map;

/** The document's sentences under their headings; where ";" stands between two parts, each is a sentence of its own. */
final class Document {
    private static final Path PLACE = Path.of("../shared/DOC.md");

    private final Map<String, String> texts = new LinkedHashMap<>();
    private final Map<String, List<String>> pieces = new LinkedHashMap<>();

    private Document(List<String> lines) {
        String heading = "";
        boolean code = false;
        for (String line : lines) {
            code ^= line.startsWith("```");
            if (line.startsWith("#")) {
                heading = line.replaceAll("^#+ ", "").replaceAll("^(Promise \\d+):.*", "$1");
            } else if (!code && !line.startsWith("```")) {
                texts.merge(heading, line.strip(), (all, more) -> (all + " " + more).strip());
                pieces.computeIfAbsent(heading, any -> new ArrayList<>()).addAll(cut(line));
            }
        }
    }

    static boolean isHere() {
        return Files.isReadable(PLACE);
    }

    static Document read() throws IOException {
        return new Document(Files.readAllLines(PLACE));
    }

    private static List<String> cut(String line) {
        List<String> cut = new ArrayList<>();
        if (line.equals(line.toUpperCase())) {
            return cut; // a heading within the Terms
        }
        String words = line.strip().replaceAll("^`(?:int )?\\w+\\([^)]*\\)`: ?", "");
        for (String sentence : words.split("(?<=[.)]) (?=[A-Z(])|(?:^| )- (?=`)|(?<=:) (?=`[A-Z])")) {
            for (String piece : sentence.split("; (?![^(]*\\))")) {
                String bare = piece.strip().replaceAll("\\.$", "");
                if (!bare.isEmpty()) {
                    cut.add(bare);
                }
            }
        }
        return cut;
    }

    /** All that stands under a heading, in one line. */
    String textOf(String heading) {
        return texts.getOrDefault(heading, "");
    }

    Map<String, List<String>> pieces() {
        return pieces;
    }
}

import java.io.IOException;
import java.util.ArrayList;
import java.util.List;
import java.util.Map;

/**
 * Each sentence of the document that names a boundary case, with a test of its own. The test is put to the program; to
 * the model, which has to agree; and to models in which the sentence does not hold, each of which has to fail it.
 */
public final class BoundariesTest {
    private static final List<String> NO_BOUNDARY = List.of(
        "Keys that only rise: ",
        "what later calls answer is free",
        "Errors are reported by the constants below",
        "The constants:",
        "Ahead of the calls ");

    private int failed;

    public static void main(String[] args) throws IOException {
        List<Sentence> sentences = new ArrayList<>();
        for (Boundaries part : List.of(new BoundariesOfPiles(), new BoundariesOfEntries(), new BoundariesOfRoads(),
            new BoundariesOfTexts(), new BoundariesOfHistory(), new BoundariesOfErrors(), new BoundariesOfTelling())) {
            sentences.addAll(part.sentences());
        }
        BoundariesTest test = new BoundariesTest();
        int faults = 0;
        for (Sentence sentence : sentences) {
            test.put(sentence);
            faults += sentence.faults();
        }
        if (Document.isHere()) {
            test.compare(sentences, Document.read());
        } else {
            System.out.println("BoundariesTest: the document is not here; the words were not compared with it");
        }
        System.out.println("BoundariesTest: " + sentences.size() + " sentences, " + faults + " faults to see, "
            + test.failed + " failed");
        if (test.failed > 0) {
            System.exit(1);
        }
    }

    private void fail(String heading, String words, String why) {
        failed++;
        System.out.println("BoundariesTest: " + heading + ", \"" + words + "\": " + why);
    }

    private void put(Sentence sentence) {
        for (String wrong : wrongInProgram(sentence)) {
            fail(sentence.heading(), sentence.words(), wrong);
        }
        for (String wrong : sentence.wrong(Model::new)) {
            fail(sentence.heading(), sentence.words(), "the model does otherwise: " + wrong);
        }
        for (int fault : sentence.faultsNotSeen()) {
            fail(sentence.heading(), sentence.words(), "the test does not see fault " + fault);
        }
        if (sentence.faults() == 0) {
            fail(sentence.heading(), sentence.words(), "no fault tries the test");
        }
    }

    /** A call that throws fails its sentence, not those behind it. */
    private static List<String> wrongInProgram(Sentence sentence) {
        try {
            return sentence.wrong(Program::new);
        } catch (RuntimeException e) {
            return List.of("a call throws " + e);
        }
    }

    /** The sentences are quoted as the document has them, and it has none but them and those without a boundary. */
    private void compare(List<Sentence> sentences, Document document) {
        for (Sentence sentence : sentences) {
            if (!document.textOf(sentence.heading()).contains(sentence.words())) {
                fail(sentence.heading(), sentence.words(), "the document does not say so");
            }
        }
        for (Map.Entry<String, List<String>> part : document.pieces().entrySet()) {
            if (part.getKey().matches("What it is|Terms|Promise \\d+")) {
                for (String piece : part.getValue()) {
                    if (NO_BOUNDARY.stream().noneMatch(piece::startsWith) && !isTested(sentences, part.getKey(), piece)) {
                        fail(part.getKey(), piece, "no test holds it");
                    }
                }
            }
        }
    }

    private static boolean isTested(List<Sentence> sentences, String heading, String piece) {
        return sentences.stream().anyMatch(sentence -> sentence.heading().equals(heading)
            && (sentence.words().contains(piece) || piece.contains(sentence.words())));
    }
}

import java.util.ArrayList;
import java.util.List;
import java.util.function.Consumer;

/** Tests of sentences that name boundary cases; each subclass has those of one part of the document. */
abstract class Boundaries {
    static final int UNKNOWN = -1;
    static final int BAD_VALUE = -2;
    static final int FULL = -3;
    static final int NOT_POSSIBLE = -4;
    static final int NONE = -5;
    static final int MIN = Integer.MIN_VALUE;
    static final int MAX = Integer.MAX_VALUE;

    private final List<Sentence> sentences = new ArrayList<>();
    private String heading = "";

    final List<Sentence> sentences() {
        return sentences;
    }

    /** The heading in the document of the sentences that follow. */
    final void under(String heading) {
        this.heading = heading;
    }

    /** The words as they stand in the document, and a test which fails if they do not hold. */
    final Sentence holds(String words, Consumer<Trial> test) {
        Sentence sentence = new Sentence(heading, words, test);
        sentences.add(sentence);
        return sentence;
    }

    static void comeIn(Face x, int... keys) {
        for (int key : keys) {
            x.comeIn(key, 0);
        }
    }

    static void comeOut(Face x, int times) {
        for (int i = 0; i < times; i++) {
            x.comeOut();
        }
    }

    static void write(Face x, String text) {
        x.clearText();
        for (int i = 0; i < text.length(); i++) {
            x.type(text.charAt(i));
        }
    }

    static int performed(Face x, String text) {
        write(x, text);
        return x.perform();
    }

    /** Lets so many entries come in and out again at once, twenty orders by each call; the keys are the floor. */
    static void throughOut(Face x, int tens) {
        write(x, "+0,-,+0,-,+0,-,+0,-,+0,-,+0,-,+0,-,+0,-,+0,-,+0,-");
        for (int i = 0; i < tens; i++) {
            x.perform();
        }
        x.clearText();
    }

    /** An act that forgets the state before it. */
    static int unrecorded(Model m, int answer) {
        if (answer >= 0) {
            m.history.remove(m.history.size() - 1);
        }
        return answer;
    }

    /** An act that records a state even if it answers an error or NONE. */
    static int recorded(Model m, int answer) {
        if (answer < 0) {
            m.history.add(m.state.copy());
        }
        return answer;
    }

    /** Lays 40 roads, none of them from the towns 4 to 11 but two from 11. */
    static void layForty(Face x) {
        for (int from = 0; from < 4; from++) {
            for (int to = 2; to < 12; to++) {
                if (from != to) {
                    x.road(from, to, 7);
                }
            }
        }
        x.road(11, 0, 7);
        x.road(11, 1, 7);
    }

    /** What can be seen of an object with some entries and roads, but for history and latest refusal, in some 80 calls. */
    static String picture(Face x) {
        StringBuilder seen = new StringBuilder();
        for (int what : new int[] {0, 1, 2, 3, 4, 5, 6, 7, 9}) {
            seen.append(' ').append(x.count(what));
        }
        for (int entry = 0; entry < 6; entry++) {
            for (int what = 0; what <= 4; what++) {
                seen.append(' ').append(x.entry(entry, what));
            }
        }
        for (int back = 0; back < 3; back++) {
            for (int what = 0; what <= 3; what++) {
                seen.append(' ').append(x.out(back, what));
            }
        }
        for (int pile = 0; pile <= 16; pile++) {
            seen.append(' ').append(x.pile(pile, 0));
        }
        for (int rank = 0; rank < 5; rank++) {
            seen.append(' ').append(x.ranked(rank));
        }
        for (int to = 1; to < 4; to++) {
            seen.append(' ').append(x.roadOf(0, to)).append(' ').append(x.distance(0, to));
        }
        return seen.append(' ').append(x.movesLeft()).toString();
    }
}

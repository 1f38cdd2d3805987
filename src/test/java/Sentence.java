import java.util.ArrayList;
import java.util.List;
import java.util.function.Consumer;
import java.util.function.Supplier;

/** A sentence of the document that names a boundary case, its test, and the faults that the test has to see. */
final class Sentence {
    private final String heading;
    private final String words;
    private final Consumer<Trial> test;
    private final List<Fault> faults = new ArrayList<>();

    Sentence(String heading, String words, Consumer<Trial> test) {
        this.heading = heading;
        this.words = words;
        this.test = test;
    }

    String heading() {
        return heading;
    }

    String words() {
        return words;
    }

    int faults() {
        return faults.size();
    }

    Sentence not(Fault... more) {
        faults.addAll(List.of(more));
        return this;
    }

    /** All the faults of a range. */
    Sentence not(Fault.Range range) {
        return not(range.takesLess(), range.takesOneLess(), range.takesMore(), range.takesOneMore(),
            range.refusesTheLeast(), range.refusesTheMost());
    }

    List<String> wrong(Supplier<Face> maker) {
        Trial trial = new Trial(maker);
        test.accept(trial);
        List<String> wrong = new ArrayList<>(trial.wrong());
        if (trial.asked() == 0) {
            wrong.add("the test asks nothing");
        }
        return wrong;
    }

    /** The numbers of the faults, from 1, that the test does not see. */
    List<Integer> faultsNotSeen() {
        List<Integer> notSeen = new ArrayList<>();
        for (int i = 0; i < faults.size(); i++) {
            if (wrong(faults.get(i)::make).isEmpty()) {
                notSeen.add(i + 1);
            }
        }
        return notSeen;
    }
}

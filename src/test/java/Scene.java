import java.util.List;
import java.util.function.Consumer;

/** A way to make one table again and again: a table answers 512 calls alone, too few for all asks. */
final class Scene {
    final String name;
    private final Consumer<ParcelledTable> steps;
    private List<String> answers;

    Scene(String name, Consumer<ParcelledTable> steps) {
        this.name = name;
        this.steps = steps;
    }

    Scene then(String more, Consumer<ParcelledTable> moreSteps) {
        return new Scene(name + ", " + more, steps.andThen(moreSteps));
    }

    ParcelledTable table() {
        ParcelledTable table = new ParcelledTable();
        steps.accept(table);
        return table;
    }

    /** Everything that the table answers, asked once and kept. */
    List<String> answers() {
        if (answers == null) {
            answers = Answers.of(this::table);
        }
        return answers;
    }
}

import java.util.ArrayList;
import java.util.List;

/** Calls that bring a new object to a state. They are made anew as often as wanted, as no object is used for long. */
final class Setup {
    private final List<Step> steps;
    private final String text;
    private long[] told;

    interface Step {
        void on(DowserPegs field);
    }

    private Setup(List<Step> steps, String text) {
        this.steps = steps;
        this.text = text;
    }

    static Setup fresh(String text) {
        return new Setup(new ArrayList<>(), text);
    }

    Setup then(Step step) {
        List<Step> more = new ArrayList<>(steps);
        more.add(step);
        return new Setup(more, text);
    }

    Setup then(Setup other) {
        List<Step> more = new ArrayList<>(steps);
        more.addAll(other.steps);
        return new Setup(more, text);
    }

    DowserPegs make() {
        DowserPegs field = new DowserPegs();
        for (Step step : steps) {
            step.on(field);
        }
        return field;
    }

    int calls() {
        return steps.size();
    }

    String text() {
        return text;
    }

    /** Kept, as many refused calls are held against the same state. */
    long[] told() {
        if (told == null) {
            told = Everything.of(this);
        }
        return told;
    }
}

import java.util.ArrayList;
import java.util.List;

/** Whatever the calls tell of a state, spot by spot, and what the changing calls do to it. */
final class Everything {
    private static final int MOST_CALLS = 512;
    /** So many questions are put to one object: its setup and one more call come before them. */
    private static final int ROW = 400;
    private static final List<String> NAMES = new ArrayList<>();
    private static final List<Question> QUESTIONS = new ArrayList<>();
    private static final int TELLING;

    interface Question {
        long ask(DowserPegs field);
    }

    static {
        addTellings();
        TELLING = QUESTIONS.size();
        addChanges();
    }

    private Everything() {
    }

    private static void add(String name, Question question) {
        NAMES.add(name);
        QUESTIONS.add(question);
    }

    private static void addTellings() {
        add("digest()", field -> field.digest());
        add("advise()", field -> field.advise());
        add("mean()", field -> Double.doubleToLongBits(field.mean()));
        for (int i = 0; i < 9; i++) {
            int what = i;
            add("count(" + what + ")", field -> field.count(what));
        }
        for (int i = 0; i < 3; i++) {
            int what = i;
            add("line(" + what + ")", field -> field.line(what));
        }
        for (int i = 0; i < 5; i++) {
            addDowser(i);
        }
        for (int i = 0; i < 10; i++) {
            addPit(i);
        }
        for (int i = 0; i < 400; i++) {
            addSpot(i % 20, i / 20);
        }
    }

    private static void addDowser(int dowser) {
        for (int i = 0; i < 8; i++) {
            int what = i;
            add("told(" + dowser + ", " + what + ")", field -> field.told(dowser, what));
        }
        for (int i = 0; i < 3; i++) {
            int what = i;
            add("best(" + dowser + ", " + what + ")", field -> field.best(dowser, what));
        }
    }

    private static void addPit(int pit) {
        for (int i = 0; i < 7; i++) {
            int what = i;
            add("about(" + pit + ", " + what + ")", field -> field.about(pit, what));
        }
        for (int i = 0; i < 5; i++) {
            int dowser = i;
            add("would(" + pit + ", " + dowser + ", true)", field -> field.would(pit, dowser, true));
            add("would(" + pit + ", " + dowser + ", false)", field -> field.would(pit, dowser, false));
        }
    }

    private static void addSpot(int x, int y) {
        for (int i = 0; i < 6; i++) {
            int what = i;
            add("spot(" + x + ", " + y + ", " + what + ")", field -> field.spot(x, y, what));
        }
        for (int i = 0; i < 5; i++) {
            int dowser = i;
            add("rod(" + dowser + ", " + x + ", " + y + ")", field -> field.rod(dowser, x, y));
        }
    }

    /** What is kept inside and not told shows in what later calls do: who has bet, how deep a pit's water is. */
    private static void addChanges() {
        for (int i = 0; i < 50; i++) {
            int dowser = i % 5;
            int pit = i / 5;
            add("then bet(" + dowser + ", " + pit + ", 1, ..)", field -> field.bet(dowser, pit, 1, dowser < 2));
        }
        for (int i = 0; i < 10; i++) {
            int pit = i;
            add("then dig(" + pit + ", 1)", field -> field.dig(pit, 1));
            add("then dig(" + pit + ", 20)", field -> field.dig(pit, 20));
        }
        add("then walk", field -> field.walk(0, 0, 0, 19, 19));
        add("then pit", field -> field.pit(13, 2));
        add("then setMark", field -> field.setMark(5));
        add("then vein", field -> field.vein(0, 1, 18, 19, 6, 5));
        add("then dowser", field -> field.dowser(6, 1));
        add("then walk on", field -> field.walk(0, 19, 0, 0, 19));
        add("then pull", field -> field.pull(19, 19));
        add("then another pit", field -> field.pit(0, 1));
        add("then digest()", field -> field.digest());
    }

    static long[] of(Setup state) {
        if (state.calls() + ROW > MOST_CALLS) {
            throw new IllegalStateException("too many calls on one object");
        }
        long[] answers = new long[QUESTIONS.size()];
        for (int first = 0; first < TELLING; first += ROW) {
            askRow(state.make(), answers, first, Math.min(TELLING, first + ROW));
        }
        askRow(state.make(), answers, TELLING, QUESTIONS.size());
        return answers;
    }

    private static void askRow(DowserPegs field, long[] answers, int first, int end) {
        for (int i = first; i < end; i++) {
            answers[i] = answer(QUESTIONS.get(i), field);
        }
    }

    /** An exception is an answer as well: a number by its name, far from what the calls answer. */
    private static long answer(Question question, DowserPegs field) {
        try {
            return question.ask(field);
        } catch (RuntimeException thrown) {
            return Long.MIN_VALUE + thrown.getClass().getName().hashCode();
        }
    }

    /** The first question that the two answer otherwise, or null. */
    static String difference(long[] before, long[] after) {
        for (int i = 0; i < before.length; i++) {
            if (before[i] != after[i]) {
                return NAMES.get(i) + " answered " + after[i] + ", due is " + before[i] + " as before";
            }
        }
        return null;
    }
}

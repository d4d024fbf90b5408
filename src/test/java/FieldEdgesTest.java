import java.util.ArrayList;
import java.util.List;

/** The edges that the document names of the field, its veins, dowsers and rods, and of the mark: promises 1 to 4. */
public final class FieldEdgesTest {
    private static final Check CHECK = new Check("FieldEdgesTest");
    private static final Class<IndexOutOfBoundsException> INDEX = IndexOutOfBoundsException.class;
    private static final Class<IllegalArgumentException> ARGUMENT = IllegalArgumentException.class;
    private static final Class<IllegalStateException> STATE = IllegalStateException.class;
    private static final int[] NO_SPOTS = {-1, 20, States.LOW, States.HIGH};
    private static final Setup EMPTY = States.empty();
    private static final Setup BUSY = States.busy();
    private static final Setup FULL = States.full();

    public static void main(String[] args) {
        nothingThereYet();
        objectsShareNothing();
        fullFieldIsFull();
        columnsAndRows();
        veinEndsInField();
        veinEndsStraight();
        veinDepths();
        veinFlows();
        veinsAtMostSix();
        veinExceptionsInOrder();
        veinNumbersAfterRefusals();
        veinOverAllSpotsBetween();
        waterAdded();
        leastDepth();
        dowserFeelings();
        dowserLeans();
        dowsersAtMostFive();
        dowserExceptionsInOrder();
        dowserAtFirst();
        marks();
        markAtFirst();
        rodOverVeins();
        rodBesideVeins();
        rodBesideTheEdges();
        rodLeans();
        rodAtTheMost();
        CHECK.end();
    }

    private static void due(String what, long want, long got) {
        CHECK.due(what, want, got);
    }

    private static void nothingThereYet() {
        CHECK.sentence("Promise 1: Creates a field without veins, dowsers, pegs and pits.");
        DowserPegs field = new DowserPegs();
        int[] counts = {0, 0, 0, 0, 3, 0, 0, 0, 0};
        for (int what = 0; what < counts.length; what++) {
            due("count(" + what + ")", counts[what], field.count(what));
        }
        due("line(0)", 0, field.line(0));
        due("line(1)", -1, field.line(1));
        due("line(2)", -1, field.line(2));
        due("advise()", -1, field.advise());
        CHECK.due("mean()", 0.0, field.mean());
        int[] spot = {0, 0, -1, -1, 0, -1};
        for (int what = 0; what < spot.length; what++) {
            DowserPegs asked = new DowserPegs();
            for (int i = 0; i < 400; i++) {
                due("spot(" + i % 20 + ", " + i / 20 + ", " + what + ")", spot[what], asked.spot(i % 20, i / 20, what));
            }
        }
        CHECK.refused("walk by dowser 0", EMPTY, INDEX, on -> on.walk(0, 0, 0, 0, 0));
        CHECK.refused("rod of dowser 0", EMPTY, INDEX, on -> on.rod(0, 0, 0));
        CHECK.refused("told of dowser 0", EMPTY, INDEX, on -> on.told(0, 0));
        CHECK.refused("best of dowser 0", EMPTY, INDEX, on -> on.best(0, 0));
        CHECK.refused("dig of pit 0", EMPTY, INDEX, on -> on.dig(0, 1));
        CHECK.refused("about pit 0", EMPTY, INDEX, on -> on.about(0, 0));
        CHECK.refused("bet of dowser 0 on pit 0", EMPTY, INDEX, on -> on.bet(0, 0, 1, true));
        CHECK.refused("would of pit 0 and dowser 0", EMPTY, INDEX, on -> on.would(0, 0, true));
        CHECK.refused("pull at 0, 0", EMPTY, STATE, on -> on.pull(0, 0));
    }

    private static void objectsShareNothing() {
        CHECK.sentence("Promise 1: Creates a field without veins, dowsers, pegs and pits. (beside others in use)");
        DowserPegs one = new DowserPegs();
        long before = one.digest();
        FULL.make();
        due("digest of an older object", before, one.digest());
        due("digest of a newer object", before, new DowserPegs().digest());
    }

    private static void fullFieldIsFull() {
        CHECK.sentence("Terms: At most 6, at most 5, at most 60, at most 10 (the tests' own full field)");
        DowserPegs field = FULL.make();
        int[] counts = {6, 5, 60, 10};
        for (int what = 0; what < counts.length; what++) {
            due("count(" + what + ")", counts[what], field.count(what));
        }
    }

    private static void columnsAndRows() {
        CHECK.sentence("Terms: It has 20 columns and 20 rows of spots, x and y from 0 to 19");
        int[][] corners = {{0, 0}, {19, 0}, {0, 19}, {19, 19}};
        for (int[] corner : corners) {
            int x = corner[0];
            int y = corner[1];
            String at = " at " + x + ", " + y;
            DowserPegs field = States.dry(1).make();
            due("vein" + at, 0, field.vein(x, y, x, y, 20, 1));
            due("spot" + at, 1, field.spot(x, y, 0));
            due("one wet spot" + at, 1, field.count(5));
            due("rod" + at, 3, field.rod(0, x, y));
            due("walk" + at, 1, field.walk(0, x, y, x, y));
            due("peg" + at, 0, field.spot(x, y, 2));
            due("pit" + at, 0, field.pit(x, y));
            due("column of the pit" + at, x, field.about(0, 0));
            due("row of the pit" + at, y, field.about(0, 1));
            due("pull" + at, 0, field.pull(x, y));
        }
    }

    private static void veinEndsInField() {
        CHECK.sentence("Promise 2: Throws IndexOutOfBoundsException if x, y, tx or ty is not 0 to 19");
        for (int bad : NO_SPOTS) {
            CHECK.refused("vein x " + bad, BUSY, INDEX, on -> on.vein(bad, 3, 3, 3, 1, 1));
            CHECK.refused("vein y " + bad, BUSY, INDEX, on -> on.vein(3, bad, 3, 3, 1, 1));
            CHECK.refused("vein tx " + bad, BUSY, INDEX, on -> on.vein(3, 3, bad, 3, 1, 1));
            CHECK.refused("vein ty " + bad, BUSY, INDEX, on -> on.vein(3, 3, 3, bad, 1, 1));
        }
        due("vein from 0, 0 to 19, 19", 0, new DowserPegs().vein(0, 0, 19, 19, 1, 1));
        due("vein from 19, 19 to 0, 0", 0, new DowserPegs().vein(19, 19, 0, 0, 1, 1));
    }

    private static void veinEndsStraight() {
        CHECK.sentence("Promise 2: Throws IllegalArgumentException if both ends are not in one row, column or diagonal");
        int[][] starts = {{0, 0}, {19, 0}, {0, 19}, {19, 19}, {9, 6}};
        for (int[] start : starts) {
            for (int i = 0; i < 400; i++) {
                int x = i % 20;
                int y = i / 20;
                boolean straight = x == start[0] || y == start[1] || x - y == start[0] - start[1]
                        || x + y == start[0] + start[1];
                String what = "vein from " + start[0] + ", " + start[1] + " to " + x + ", " + y;
                DowserPegs field = new DowserPegs();
                if (straight) {
                    due(what, 0, field.vein(start[0], start[1], x, y, 1, 1));
                } else {
                    CHECK.isThrown(what, ARGUMENT, () -> field.vein(start[0], start[1], x, y, 1, 1));
                }
                due("veins after " + what, straight ? 1 : 0, field.count(0));
            }
        }
        CHECK.refused("vein a little off the diagonal", BUSY, ARGUMENT, on -> on.vein(3, 3, 13, 14, 1, 1));
        CHECK.refused("vein a little off the row", BUSY, ARGUMENT, on -> on.vein(0, 3, 19, 4, 1, 1));
        CHECK.refused("vein a little off the column", BUSY, ARGUMENT, on -> on.vein(4, 19, 3, 0, 1, 1));
    }

    private static void veinDepths() {
        CHECK.sentence("Promise 2: Throws IllegalArgumentException if .. depth is not 1 to 20");
        for (int bad : new int[] {0, 21, -1, States.LOW, States.HIGH}) {
            CHECK.refused("vein depth " + bad, BUSY, ARGUMENT, on -> on.vein(0, 0, 0, 3, bad, 1));
        }
        for (int depth = 1; depth <= 20; depth++) {
            DowserPegs field = new DowserPegs();
            due("vein depth " + depth, 0, field.vein(0, 0, 0, 3, depth, 1));
            due("depth told", depth, field.spot(0, 3, 1));
        }
    }

    private static void veinFlows() {
        CHECK.sentence("Promise 2: Throws IllegalArgumentException if .. flow is not 1 to 9");
        for (int bad : new int[] {0, 10, -1, States.LOW, States.HIGH}) {
            CHECK.refused("vein flow " + bad, BUSY, ARGUMENT, on -> on.vein(0, 0, 0, 3, 1, bad));
        }
        for (int flow = 1; flow <= 9; flow++) {
            DowserPegs field = new DowserPegs();
            due("vein flow " + flow, 0, field.vein(0, 0, 0, 3, 1, flow));
            due("water told", flow, field.spot(0, 3, 0));
        }
    }

    private static void veinsAtMostSix() {
        CHECK.sentence("Promise 2: Throws IllegalStateException if there are 6");
        Setup state = Setup.fresh("veins alone");
        for (int i = 0; i < 6; i++) {
            due("vein's number", i, state.make().vein(2, 2, 2, 2, 5, 5));
            state = state.then(field -> field.vein(2, 2, 2, 2, 5, 5));
            due("veins", i + 1, state.make().count(0));
        }
        CHECK.refused("a seventh vein", state, STATE, on -> on.vein(2, 2, 2, 2, 5, 5));
        CHECK.refused("a seventh vein", FULL, STATE, on -> on.vein(0, 0, 19, 19, 20, 9));
    }

    private static void veinExceptionsInOrder() {
        CHECK.sentence("Terms: If several exceptions apply, the one that is named first is thrown. (vein)");
        CHECK.refused("vein out of the field, askew", BUSY, INDEX, on -> on.vein(-1, 0, 5, 2, 1, 1));
        CHECK.refused("vein out of the field, no depth", BUSY, INDEX, on -> on.vein(0, 20, 0, 0, 0, 1));
        CHECK.refused("vein out of the field, no flow", BUSY, INDEX, on -> on.vein(0, 0, 20, 0, 1, 10));
        CHECK.refused("vein out of the field, a seventh", FULL, INDEX, on -> on.vein(0, 0, 0, -1, 1, 1));
        CHECK.refused("vein with all wrong, a seventh", FULL, INDEX, on -> on.vein(0, 0, 3, 20, 21, 0));
        CHECK.refused("vein askew, a seventh", FULL, ARGUMENT, on -> on.vein(0, 0, 3, 4, 1, 1));
        CHECK.refused("vein without depth, a seventh", FULL, ARGUMENT, on -> on.vein(0, 0, 3, 3, 21, 1));
        CHECK.refused("vein without flow, a seventh", FULL, ARGUMENT, on -> on.vein(0, 0, 3, 3, 1, 0));
    }

    private static void veinNumbersAfterRefusals() {
        CHECK.sentence("Terms: At most 6, numbered from 0 (a refused vein takes no number)");
        DowserPegs field = new DowserPegs();
        for (int i = 0; i < 6; i++) {
            CHECK.isThrown("index", INDEX, () -> field.vein(0, 0, 0, 20, 1, 1));
            CHECK.isThrown("argument", ARGUMENT, () -> field.vein(0, 0, 0, 1, 0, 1));
            due("vein", i, field.vein(0, 0, 0, 1, 1, 1));
        }
        CHECK.isThrown("state", STATE, () -> field.vein(0, 0, 0, 1, 1, 1));
        due("water", 6, field.spot(0, 1, 0));
    }

    private static void veinOverAllSpotsBetween() {
        CHECK.sentence("Terms: each goes in a straight line from one spot to another one .., over all spots between");
        int[][] ends = {{0, 7, 19, 7}, {19, 7, 0, 7}, {7, 0, 7, 19}, {7, 19, 7, 0}, {0, 0, 19, 19}, {19, 19, 0, 0},
                {19, 0, 0, 19}, {0, 19, 19, 0}, {3, 4, 9, 10}, {9, 10, 3, 4}, {3, 10, 9, 4}, {9, 4, 3, 10},
                {3, 4, 9, 4}, {9, 4, 3, 4}, {3, 4, 3, 10}, {3, 10, 3, 4}, {5, 5, 6, 5}, {5, 5, 5, 4}, {5, 5, 4, 6},
                {5, 5, 5, 5}};
        for (int[] end : ends) {
            DowserPegs field = new DowserPegs();
            field.vein(end[0], end[1], end[2], end[3], 1, 1);
            String vein = "vein " + java.util.Arrays.toString(end);
            int wet = 0;
            for (int i = 0; i < 400; i++) {
                int want = between(end, i % 20, i / 20) ? 1 : 0;
                wet += want;
                due(vein + ": water of " + i % 20 + ", " + i / 20, want, field.spot(i % 20, i / 20, 0));
            }
            due(vein + ": spots with water", wet, field.count(5));
        }
    }

    private static boolean between(int[] end, int x, int y) {
        boolean onLine = (x - end[0]) * (end[3] - end[1]) == (y - end[1]) * (end[2] - end[0]);
        return onLine && Math.min(end[0], end[2]) <= x && x <= Math.max(end[0], end[2])
                && Math.min(end[1], end[3]) <= y && y <= Math.max(end[1], end[3]);
    }

    private static void waterAdded() {
        CHECK.sentence("Terms: The water of a spot: the flows of all veins over it, added");
        DowserPegs field = new DowserPegs();
        due("without a vein", 0, field.spot(10, 10, 0));
        for (int i = 1; i <= 6; i++) {
            field.vein(10, 10, 10, 10, 21 - i, 9);
            due("of " + i + " veins over it", 9 * i, field.spot(10, 10, 0));
        }
        due("beside them", 0, field.spot(10, 9, 0));
        due("a spot is wet once", 1, field.count(5));
    }

    private static void leastDepth() {
        CHECK.sentence("Terms: its depth: the least depth of these");
        int[][] depths = {{1, 20, 1}, {20, 1, 1}, {7, 7, 7}, {8, 7, 7}, {7, 8, 7}, {19, 20, 19}, {20, 20, 20}};
        for (int[] depth : depths) {
            DowserPegs field = new DowserPegs();
            due("without a vein", 0, field.spot(4, 4, 1));
            field.vein(0, 4, 19, 4, depth[0], 1);
            due("the one depth", depth[0], field.spot(4, 4, 1));
            field.vein(4, 0, 4, 19, depth[1], 9);
            due("of " + depth[0] + " and " + depth[1], depth[2], field.spot(4, 4, 1));
            due("off the second one", depth[0], field.spot(3, 4, 1));
            due("off the first one", depth[1], field.spot(4, 3, 1));
            due("off both", 0, field.spot(5, 5, 1));
        }
    }

    private static void dowserFeelings() {
        CHECK.sentence("Promise 3: Throws IllegalArgumentException if feeling is not 0 to 9");
        for (int bad : new int[] {-1, 10, States.LOW, States.HIGH}) {
            CHECK.refused("dowser feeling " + bad, BUSY, ARGUMENT, on -> on.dowser(bad, 0));
        }
        for (int feeling = 0; feeling <= 9; feeling++) {
            DowserPegs field = new DowserPegs();
            due("dowser", 0, field.dowser(feeling, 0));
            due("feeling", feeling, field.told(0, 0));
        }
    }

    private static void dowserLeans() {
        CHECK.sentence("Promise 3: Throws IllegalArgumentException if .. lean is not -3 to 3");
        for (int bad : new int[] {-4, 4, States.LOW, States.HIGH}) {
            CHECK.refused("dowser lean " + bad, BUSY, ARGUMENT, on -> on.dowser(0, bad));
        }
        for (int lean = -3; lean <= 3; lean++) {
            DowserPegs field = new DowserPegs();
            due("dowser", 0, field.dowser(0, lean));
            due("lean", lean, field.told(0, 1));
        }
    }

    private static void dowsersAtMostFive() {
        CHECK.sentence("Promise 3: Throws IllegalStateException if there are 5");
        for (int i = 0; i < 5; i++) {
            due("dowser's number", i, States.dry(i).make().dowser(9, -3));
            due("dowsers", i, States.dry(i).make().count(1));
        }
        CHECK.refused("a sixth dowser", States.dry(5), STATE, on -> on.dowser(0, 3));
        CHECK.refused("a sixth dowser", FULL, STATE, on -> on.dowser(9, -3));
    }

    private static void dowserExceptionsInOrder() {
        CHECK.sentence("Terms: If several exceptions apply, the one that is named first is thrown. (dowser)");
        CHECK.refused("no feeling, a sixth", FULL, ARGUMENT, on -> on.dowser(10, 0));
        CHECK.refused("no lean, a sixth", FULL, ARGUMENT, on -> on.dowser(0, -4));
        DowserPegs field = new DowserPegs();
        for (int i = 0; i < 5; i++) {
            CHECK.isThrown("argument", ARGUMENT, () -> field.dowser(0, 4));
            due("a refused dowser takes no number", i, field.dowser(0, 3));
        }
    }

    private static void dowserAtFirst() {
        CHECK.sentence("Terms: each has a feeling, 0 to 9, a lean, -3 to 3, and coins (50, at first)");
        DowserPegs field = States.dry(5).make();
        int[] wants = {0, 3, 50, 0, 0, 0, 0, 0};
        for (int dowser = 0; dowser < 5; dowser++) {
            for (int what = 0; what < wants.length; what++) {
                due("told(" + dowser + ", " + what + ")", wants[what], field.told(dowser, what));
            }
        }
        due("coins of all dowsers", 250, field.count(8));
        due("coins of the field", 0, field.count(7));
    }

    private static void marks() {
        CHECK.sentence("Promise 4: Throws IllegalArgumentException if mark is not 1 to 30");
        for (int bad : new int[] {0, 31, -1, States.LOW, States.HIGH}) {
            CHECK.refused("mark " + bad, BUSY, ARGUMENT, on -> on.setMark(bad));
            CHECK.refused("mark " + bad, EMPTY, ARGUMENT, on -> on.setMark(bad));
        }
        DowserPegs field = new DowserPegs();
        int before = 3;
        for (int mark = 1; mark <= 30; mark++) {
            due("the mark before", before, field.setMark(mark));
            due("the mark", mark, field.count(4));
            before = mark;
        }
        due("the same mark again", 30, field.setMark(30));
        due("and again", 30, field.setMark(1));
    }

    private static void markAtFirst() {
        CHECK.sentence("Terms: the mark, 1 to 30 (3, at first)");
        due("the mark at first", 3, new DowserPegs().count(4));
        due("the mark before the first one", 3, new DowserPegs().setMark(3));
        DowserPegs field = new DowserPegs();
        field.dowser(0, 2);
        field.dowser(0, 3);
        due("a rod that bends by 2", 0, field.walk(0, 0, 0, 5, 0));
        due("a rod that bends by 3", 6, field.walk(1, 0, 0, 5, 0));
    }

    /** A rod over or beside one spot long veins, each {depth, flow}, at (10, 10). */
    private static int bend(int feeling, int lean, int x, int y, int[]... veins) {
        DowserPegs field = new DowserPegs();
        field.dowser(feeling, lean);
        for (int[] vein : veins) {
            field.vein(10, 10, 10, 10, vein[0], vein[1]);
        }
        return field.rod(0, x, y);
    }

    private static void rodOverVeins() {
        CHECK.sentence("Terms: for each vein that goes over the spot, its flow * the feeling, / its depth");
        due("the most", 81, bend(9, 0, 10, 10, new int[] {1, 9}));
        due("a whole quotient", 1, bend(4, 0, 10, 10, new int[] {20, 5}));
        due("cut towards 0, a little too little for 1", 0, bend(2, 0, 10, 10, new int[] {19, 9}));
        due("the product first: 5 * 5 / 4", 6, bend(5, 0, 10, 10, new int[] {4, 5}));
        due("the product first: 3 * 9 / 10", 2, bend(9, 0, 10, 10, new int[] {10, 3}));
        due("without feeling", 0, bend(0, 0, 10, 10, new int[] {1, 9}));
        due("each cut by itself: 3 / 2 and 3 / 2", 2, bend(1, 0, 10, 10, new int[] {2, 3}, new int[] {2, 3}));
        due("each by its own depth: 8 / 1 and 8 / 8", 9, bend(8, 0, 10, 10, new int[] {1, 1}, new int[] {8, 1}));
        due("without a vein", 0, bend(9, 0, 10, 10));
    }

    private static void rodBesideVeins() {
        CHECK.sentence("Terms: for each other vein of which some spot is 1 far from it, half of that (cut)");
        int[][] besides = {{9, 10}, {11, 10}, {10, 9}, {10, 11}};
        for (int[] beside : besides) {
            due("half of 81", 40, bend(9, 0, beside[0], beside[1], new int[] {1, 9}));
            due("half of 1", 0, bend(1, 0, beside[0], beside[1], new int[] {1, 1}));
            due("half of 2", 1, bend(1, 0, beside[0], beside[1], new int[] {1, 2}));
            due("each cut by itself", 2, bend(1, 0, beside[0], beside[1], new int[] {1, 3}, new int[] {1, 3}));
            due("half of 15 / 2", 3, bend(5, 0, beside[0], beside[1], new int[] {2, 3}));
        }
        int[][] further = {{9, 9}, {11, 9}, {9, 11}, {11, 11}, {8, 10}, {12, 10}, {10, 8}, {10, 12}};
        for (int[] spot : further) {
            due("2 far, at " + spot[0] + ", " + spot[1], 0, bend(9, 0, spot[0], spot[1], new int[] {1, 9}));
        }
        DowserPegs line = new DowserPegs();
        line.dowser(1, 0);
        line.vein(5, 5, 8, 5, 1, 8);
        line.vein(2, 12, 6, 16, 1, 8);
        due("over it, and so not beside it as well", 8, line.rod(0, 6, 5));
        due("over its end", 8, line.rod(0, 5, 5));
        due("beside its end", 4, line.rod(0, 4, 5));
        due("beside its other end", 4, line.rod(0, 9, 5));
        due("2 beside its end", 0, line.rod(0, 3, 5));
        due("beside two spots of a diagonal, counted once", 4, line.rod(0, 3, 12));
        due("below two spots of a diagonal, counted once", 4, line.rod(0, 3, 14));
        due("beyond a diagonal's end", 0, line.rod(0, 7, 17));
        due("beside a diagonal's end", 4, line.rod(0, 7, 16));
        line.vein(6, 6, 6, 6, 1, 6);
        due("over one, beside the other", 8 + 3, line.rod(0, 6, 5));
        due("over the other, beside the one", 6 + 4, line.rod(0, 6, 6));
    }

    private static void rodBesideTheEdges() {
        CHECK.sentence("Terms: how far two spots are from each other: how much their columns differ, and how much their rows do");
        int[][] corners = {{0, 0}, {19, 0}, {0, 19}, {19, 19}, {0, 7}, {19, 7}, {7, 0}, {7, 19}};
        for (int[] corner : corners) {
            DowserPegs field = new DowserPegs();
            field.dowser(1, 0);
            field.vein(corner[0], corner[1], corner[0], corner[1], 1, 8);
            for (int i = 0; i < 400; i++) {
                int far = Math.abs(i % 20 - corner[0]) + Math.abs(i / 20 - corner[1]);
                int want = far == 0 ? 8 : far == 1 ? 4 : 0;
                due("vein at " + corner[0] + ", " + corner[1] + ": rod at " + i % 20 + ", " + i / 20,
                        want, field.rod(0, i % 20, i / 20));
            }
        }
    }

    private static void rodLeans() {
        CHECK.sentence("Terms: all added, and the lean; at least 0.");
        due("lean alone", 3, bend(9, 3, 10, 10));
        due("lean alone, below 0", 0, bend(9, -1, 10, 10));
        due("lean alone, as far below 0 as may be", 0, bend(9, -3, 10, 10));
        due("2 and -3", 0, bend(1, -3, 10, 10, new int[] {1, 2}));
        due("3 and -3", 0, bend(1, -3, 10, 10, new int[] {1, 3}));
        due("4 and -3", 1, bend(1, -3, 10, 10, new int[] {1, 4}));
        due("1, 4 and -3: at least 0 at the end only", 2, bend(1, -3, 10, 10, new int[] {1, 1}, new int[] {1, 4}));
        due("the lean once, over two", 3 + 5 + 3, bend(1, 3, 10, 10, new int[] {1, 3}, new int[] {1, 5}));
        due("the lean whole, beside", 4 + 3, bend(1, 3, 10, 11, new int[] {1, 8}));
        due("the lean below 0 whole, beside", 4 - 3, bend(1, -3, 10, 11, new int[] {1, 8}));
    }

    private static void rodAtTheMost() {
        CHECK.sentence("Terms: How a rod bends in the hand of a dowser at a spot (over and beside as many veins as may be)");
        List<int[]> veins = new ArrayList<>();
        for (int i = 0; i < 6; i++) {
            veins.add(new int[] {1, 9});
        }
        due("over six", 6 * 81 + 3, bend(9, 3, 10, 10, veins.toArray(new int[0][])));
        due("beside six", 6 * 40 - 3, bend(9, -3, 10, 11, veins.toArray(new int[0][])));
    }
}

import java.util.ArrayList;
import java.util.Arrays;
import java.util.List;

/** The edges that the document names of walks and pegs: promises 5 and 6. */
public final class PegEdgesTest {
    private static final Check CHECK = new Check("PegEdgesTest");
    private static final Class<IndexOutOfBoundsException> INDEX = IndexOutOfBoundsException.class;
    private static final Class<IllegalStateException> STATE = IllegalStateException.class;
    private static final int[] NO_SPOTS = {-1, 20, States.LOW, States.HIGH};
    private static final Setup EMPTY = States.empty();
    private static final Setup BUSY = States.busy();
    private static final Setup FULL = States.full();
    private static final int[][] WALKS = {{5, 5, 9, 8}, {9, 8, 5, 5}, {9, 5, 5, 8}, {5, 8, 9, 5}, {5, 5, 9, 5},
        {9, 5, 5, 5}, {5, 5, 5, 9}, {5, 9, 5, 5}, {5, 5, 5, 5}, {0, 0, 12, 12}, {12, 12, 0, 0}, {19, 0, 7, 12},
        {7, 12, 19, 0}, {0, 0, 1, 1}, {19, 1, 18, 0}};

    public static void main(String[] args) {
        way();
        order();
        orderAmongPegs();
        atMostSixty();
        sixtyOfAllDowsers();
        oneAgainAfterPulling();
        bendsByTheMark();
        ifNoPegIsThere();
        itsDowserAndSpot();
        truePegs();
        truthOfLaterVeins();
        walkWithoutSuchADowser();
        walkOutOfTheField();
        pullGivesTheDowser();
        pullOutOfTheField();
        pullWhereNoPegIs();
        CHECK.end();
    }

    private static void due(String what, long want, long got) {
        CHECK.due(what, want, got);
    }

    /** The spots of a way as y * 20 + x, in their order. */
    private static List<Integer> spotsOf(int[] walk) {
        List<Integer> spots = new ArrayList<>();
        int x = walk[0];
        int y = walk[1];
        spots.add(y * 20 + x);
        while (x != walk[2] || y != walk[3]) {
            if (x != walk[2]) {
                x += x < walk[2] ? 1 : -1;
            } else {
                y += y < walk[3] ? 1 : -1;
            }
            spots.add(y * 20 + x);
        }
        return spots;
    }

    private static int walk(DowserPegs field, int dowser, int[] walk) {
        return field.walk(dowser, walk[0], walk[1], walk[2], walk[3]);
    }

    private static void duePegs(String what, DowserPegs field, int dowser, List<Integer> spots) {
        for (int i = 0; i < 400; i++) {
            boolean stands = field.spot(i % 20, i / 20, 2) == dowser;
            due(what + ": whether a peg of his is at " + i % 20 + ", " + i / 20,
                    spots.contains(i) ? 1 : 0, stands ? 1 : 0);
        }
    }

    private static void way() {
        CHECK.sentence("Promise 5: along the row of the first one to the column of the other one, then along this"
                + " column; each spot of this way, both ends as well, is walked once");
        for (int[] walk : WALKS) {
            DowserPegs field = States.dry(1).make();
            List<Integer> spots = spotsOf(walk);
            String what = "walk " + Arrays.toString(walk);
            due(what, spots.size(), walk(field, 0, walk));
            duePegs(what, field, 0, spots);
            due(what + " again", 0, walk(field, 0, walk));
            due(what + ": pegs", spots.size(), field.count(2));
        }
        DowserPegs field = States.dry(1).make();
        due("the longest way", 39, field.walk(0, 0, 0, 19, 19));
        due("and back by the other borders, till 60 stand", 21, field.walk(0, 19, 19, 0, 0));
    }

    /** A dry field on which dowser 1 may mark just so many pegs more; the others stand in rows 13 and below. */
    private static Setup leaving(int free) {
        Setup state = States.dry(2);
        int pegs = 60 - free;
        for (int i = 0; i < pegs; i += 20) {
            int row = 13 + i / 20;
            int last = Math.min(19, pegs - i - 1);
            state = state.then(field -> field.walk(0, 0, row, last, row));
        }
        return state;
    }

    private static void order() {
        CHECK.sentence("Promise 5: is walked once, in this order");
        for (int[] walk : WALKS) {
            List<Integer> spots = spotsOf(walk);
            for (int free = 0; free <= Math.min(12, spots.size()); free++) {
                DowserPegs field = leaving(free).make();
                String what = "walk " + Arrays.toString(walk) + " as " + (60 - free) + " stand";
                due(what, free, walk(field, 1, walk));
                duePegs(what, field, 1, spots.subList(0, free));
            }
        }
    }

    private static void orderAmongPegs() {
        CHECK.sentence("Promise 5: is walked once, in this order (past pegs that stand)");
        DowserPegs field = leaving(5).make();
        field.walk(0, 6, 5, 6, 5);
        field.walk(0, 9, 5, 9, 5);
        due("3 more", 3, field.walk(1, 5, 5, 9, 8));
        duePegs("the first three without a peg", field, 1, List.of(105, 107, 108));
    }

    private static void atMostSixty() {
        CHECK.sentence("Promise 5: Returns how many pegs are marked (none any more as there are 60).");
        int[] frees = {0, 1, 2, 19, 20, 39, 40};
        for (int free : frees) {
            DowserPegs field = leaving(free).make();
            due("pegs that stand", 60 - free, field.count(2));
            due("marked at the most " + free, Math.min(free, 24), field.walk(1, 0, 0, 12, 11));
            due("pegs then", 60 - free + Math.min(free, 24), field.count(2));
        }
        DowserPegs field = leaving(1).make();
        due("the 60th", 1, field.walk(1, 0, 0, 19, 12));
        due("pegs", 60, field.count(2));
        due("a 61st", 0, field.walk(1, 0, 1, 19, 12));
        due("at a spot alone", 0, field.walk(0, 3, 3, 3, 3));
        due("pegs still", 60, field.count(2));
        DowserPegs full = FULL.make();
        due("on the full field, wet spots", 0, full.walk(4, 19, 5, 0, 5));
        due("pegs still", 60, full.count(2));
    }

    private static void sixtyOfAllDowsers() {
        CHECK.sentence("Terms: At most 60 pegs stand in all");
        DowserPegs field = States.dry(5).make();
        for (int dowser = 0; dowser < 5; dowser++) {
            due("marked by " + dowser, 12, field.walk(dowser, 0, dowser, 11, dowser));
        }
        for (int dowser = 0; dowser < 5; dowser++) {
            due("no more by " + dowser, 0, field.walk(dowser, 0, 10 + dowser, 11, 10 + dowser));
            due("pegs of " + dowser, 12, field.told(dowser, 3));
        }
        due("pegs", 60, field.count(2));
        DowserPegs alone = States.dry(1).make();
        due("one dowser marks 20", 20, alone.walk(0, 0, 3, 19, 3));
        due("and 39 more", 39, alone.walk(0, 19, 4, 0, 4) + alone.walk(0, 19, 5, 1, 5));
        due("and one", 1, alone.walk(0, 10, 10, 19, 19));
        due("all are his", 60, alone.told(0, 3));
    }

    private static void oneAgainAfterPulling() {
        CHECK.sentence("Promise 5: none any more as there are 60 (and as one is pulled out)");
        DowserPegs field = leaving(0).make();
        due("none", 0, field.walk(1, 4, 4, 9, 4));
        due("pull", 0, field.pull(19, 15));
        due("pegs", 59, field.count(2));
        due("one", 1, field.walk(1, 4, 4, 9, 4));
        duePegs("the first of the way", field, 1, List.of(84));
        field.pull(4, 4);
        due("one at the same spot", 1, field.walk(0, 4, 4, 9, 4));
        due("the 60th is the other one's", 0, field.spot(4, 4, 2));
    }

    /** How many pegs a rod that bends by so much, over one spot, marks there. */
    private static int markedBy(int mark, int lean, int flow) {
        DowserPegs field = new DowserPegs();
        field.vein(7, 7, 7, 7, 1, flow);
        field.dowser(3, lean);
        field.setMark(mark);
        due("rod", 3 * flow + lean, field.rod(0, 7, 7));
        return field.walk(0, 7, 7, 7, 7);
    }

    private static void bendsByTheMark() {
        CHECK.sentence("Terms: marks a peg at each spot of the way at which the rod bends by so much as the mark .., or more");
        due("27 of 28", 0, markedBy(28, 0, 9));
        due("27 of 27", 1, markedBy(27, 0, 9));
        due("27 of 26", 1, markedBy(26, 0, 9));
        due("30 of 30", 1, markedBy(30, 3, 9));
        due("29 of 30", 0, markedBy(30, 2, 9));
        due("30 of 29", 1, markedBy(29, 3, 9));
        due("1 of 1", 1, markedBy(1, -2, 1));
        due("0 of 1", 0, markedBy(1, -3, 1));
        due("1 of 2", 0, markedBy(2, -2, 1));
        due("3 of the mark at first", 1, markedBy(3, 0, 1));
        due("2 of the mark at first", 0, markedBy(3, -1, 1));
        DowserPegs field = new DowserPegs();
        field.vein(7, 7, 7, 7, 1, 4);
        field.dowser(1, 0);
        field.setMark(2);
        due("over the vein, and beside it on both sides", 3, field.walk(0, 0, 7, 19, 7));
        due("and above and below", 2, field.walk(0, 7, 19, 7, 0));
        due("the mark of before is of no more use", 2, field.setMark(5));
        due("a peg stands, whatever the mark", 5, field.count(2));
        field.pull(7, 7);
        due("not with the new mark", 0, field.walk(0, 7, 0, 7, 19));
    }

    private static void ifNoPegIsThere() {
        CHECK.sentence("Terms: marks a peg at each spot .., if no peg is there");
        DowserPegs field = States.dry(2).make();
        due("three", 3, field.walk(0, 4, 4, 6, 4));
        due("his own stay", 0, field.walk(0, 4, 4, 6, 4));
        due("another one's stay", 2, field.walk(1, 3, 4, 7, 4));
        int[] owners = {-1, 1, 0, 0, 0, 1, -1};
        for (int i = 0; i < owners.length; i++) {
            due("the dowser of the peg at " + (2 + i) + ", 4", owners[i], field.spot(2 + i, 4, 2));
        }
        due("pegs of the first one", 3, field.told(0, 3));
        due("pegs of the second one", 2, field.told(1, 3));
        due("pegs", 5, field.count(2));
    }

    private static void itsDowserAndSpot() {
        CHECK.sentence("Terms: each has its dowser, and its spot");
        DowserPegs field = States.dry(5).make();
        for (int dowser = 4; dowser >= 0; dowser--) {
            due("marked", dowser + 1, field.walk(dowser, 0, dowser, dowser, dowser));
        }
        for (int dowser = 0; dowser < 5; dowser++) {
            due("pegs of " + dowser, dowser + 1, field.told(dowser, 3));
            due("first peg of " + dowser, dowser, field.spot(0, dowser, 2));
            due("last peg of " + dowser, dowser, field.spot(dowser, dowser, 2));
            due("no further peg of " + dowser, -1, field.spot(dowser + 1, dowser, 2));
        }
    }

    private static void truePegs() {
        CHECK.sentence("Terms: A peg is true, if a vein goes over its spot.");
        DowserPegs field = States.dry(2).make();
        field.vein(5, 5, 8, 5, 20, 1);
        field.walk(0, 5, 4, 8, 4);
        due("beside the vein", 0, field.told(0, 4));
        due("beside the vein", 0, field.count(6));
        field.walk(0, 4, 5, 4, 5);
        field.walk(0, 9, 5, 9, 5);
        due("before the ends", 0, field.told(0, 4));
        field.walk(0, 5, 5, 5, 5);
        due("over the end", 1, field.told(0, 4));
        field.walk(0, 8, 5, 8, 5);
        due("over the other end", 2, field.told(0, 4));
        field.walk(1, 6, 5, 6, 5);
        due("the other one's is not his", 2, field.told(0, 4));
        due("the other one's", 1, field.told(1, 4));
        due("of all", 3, field.count(6));
        field.pull(5, 5);
        due("pulled out", 1, field.told(0, 4));
        due("of all then", 2, field.count(6));
        due("pegs", 8, field.count(2));
    }

    private static void truthOfLaterVeins() {
        CHECK.sentence("Terms: A peg is true, if a vein goes over its spot. (a vein that comes later)");
        DowserPegs field = States.dry(1).make();
        field.walk(0, 3, 3, 5, 3);
        due("no veins", 0, field.told(0, 4));
        field.vein(3, 3, 3, 3, 1, 1);
        due("one over the first", 1, field.told(0, 4));
        field.vein(3, 3, 4, 3, 1, 1);
        due("one over the first and the second", 2, field.count(6));
        due("advise", 0, field.advise());
    }

    private static void walkWithoutSuchADowser() {
        CHECK.sentence("Promise 5: Throws IndexOutOfBoundsException if there is no such dowser");
        for (int bad : new int[] {-1, 2, States.LOW, States.HIGH}) {
            CHECK.refused("walk of dowser " + bad, BUSY, INDEX, on -> on.walk(bad, 0, 0, 5, 5));
        }
        CHECK.refused("walk of dowser 0 of none", EMPTY, INDEX, on -> on.walk(0, 0, 0, 5, 5));
        CHECK.refused("walk of dowser 5 of 5", FULL, INDEX, on -> on.walk(5, 0, 0, 5, 5));
        CHECK.refused("walk of dowser 5 of 5, pegs free", States.dry(5), INDEX, on -> on.walk(5, 0, 0, 5, 5));
        due("walk of dowser 4 of 5", 6, States.dry(5).make().walk(4, 0, 0, 5, 0));
    }

    private static void walkOutOfTheField() {
        CHECK.sentence("Promise 5: Throws IndexOutOfBoundsException if .. x, y, tx or ty is not 0 to 19");
        Setup dry = States.dry(1);
        for (int bad : NO_SPOTS) {
            CHECK.refused("walk from column " + bad, dry, INDEX, on -> on.walk(0, bad, 3, 3, 3));
            CHECK.refused("walk from row " + bad, dry, INDEX, on -> on.walk(0, 3, bad, 3, 3));
            CHECK.refused("walk to column " + bad, dry, INDEX, on -> on.walk(0, 3, 3, bad, 3));
            CHECK.refused("walk to row " + bad, dry, INDEX, on -> on.walk(0, 3, 3, 3, bad));
            CHECK.refused("walk to column " + bad + ", full", FULL, INDEX, on -> on.walk(0, 3, 3, bad, 3));
        }
        CHECK.refused("walk with all wrong", dry, INDEX, on -> on.walk(1, -1, 20, 20, -1));
        due("walk by the borders", 39, dry.make().walk(0, 19, 19, 0, 0));
        due("walk by the other borders", 39, dry.make().walk(0, 0, 19, 19, 0));
    }

    private static void pullGivesTheDowser() {
        CHECK.sentence("Promise 6: Returns the dowser who marked it.");
        Setup state = States.dry(5);
        for (int i = 0; i < 5; i++) {
            int dowser = i;
            state = state.then(field -> field.walk(dowser, 19, dowser, 19, dowser));
        }
        DowserPegs field = state.make();
        for (int dowser = 0; dowser < 5; dowser++) {
            due("pull", dowser, field.pull(19, dowser));
            due("no peg there", -1, field.spot(19, dowser, 2));
            due("pegs of his", 0, field.told(dowser, 3));
            due("pegs", 4 - dowser, field.count(2));
        }
    }

    private static void pullOutOfTheField() {
        CHECK.sentence("Promise 6: Throws IndexOutOfBoundsException if x or y is not 0 to 19");
        for (int bad : NO_SPOTS) {
            // Pegs are at 19, 0 and at 0, 1, where the rows' ends would run on to.
            CHECK.refused("pull in column " + bad, BUSY, INDEX, on -> on.pull(bad, 0));
            CHECK.refused("pull in column " + bad, BUSY, INDEX, on -> on.pull(bad, 1));
            CHECK.refused("pull in row " + bad, BUSY, INDEX, on -> on.pull(0, bad));
            CHECK.refused("pull in row " + bad, BUSY, INDEX, on -> on.pull(19, bad));
        }
        due("pull at 19, 0", 1, BUSY.make().pull(19, 0));
        due("pull at 0, 1", 1, BUSY.make().pull(0, 1));
        due("pull at 19, 18", 1, BUSY.make().pull(19, 18));
        CHECK.refused("pull in column 20, no peg", EMPTY, INDEX, on -> on.pull(20, 20));
    }

    private static void pullWhereNoPegIs() {
        CHECK.sentence("Promise 6: Throws IllegalStateException if no peg is there");
        CHECK.refused("pull without pegs", EMPTY, STATE, on -> on.pull(0, 0));
        CHECK.refused("pull without pegs", States.dry(1), STATE, on -> on.pull(19, 19));
        CHECK.refused("pull beside a peg", BUSY, STATE, on -> on.pull(16, 0));
        CHECK.refused("pull above a peg", BUSY, STATE, on -> on.pull(19, 17));
        CHECK.refused("pull with column and row changed", BUSY, STATE, on -> on.pull(18, 19));
        CHECK.refused("pull at a pit without a peg", BUSY, STATE, on -> on.pull(5, 8));
        CHECK.refused("pull on a full field", FULL, STATE, on -> on.pull(13, 2));
        Setup pulled = BUSY.then(field -> field.pull(19, 0));
        CHECK.refused("pull a second time", pulled, STATE, on -> on.pull(19, 0));
        DowserPegs field = States.dry(1).make();
        due("one peg", 1, field.walk(0, 6, 6, 6, 6));
        due("the last one", 0, field.pull(6, 6));
        due("no pegs", 0, field.count(2));
        due("marked again", 1, field.walk(0, 6, 6, 6, 6));
    }
}

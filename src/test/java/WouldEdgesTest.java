import java.math.BigInteger;
import java.util.ArrayList;
import java.util.List;

/** The edges that the document names of what would be, and of the checksum: promises 16 to 20. */
public final class WouldEdgesTest {
    private static final Check CHECK = new Check("WouldEdgesTest");
    private static final Class<IndexOutOfBoundsException> INDEX = IndexOutOfBoundsException.class;
    private static final Setup EMPTY = States.empty();
    private static final Setup BUSY = States.busy();
    private static final Setup FULL = States.full();

    public static void main(String[] args) {
        wouldOfNoPit();
        wouldOfNoDowser();
        wouldOfAPitThatIsOver();
        wouldAsThingsStand();
        wouldWithoutABet();
        wouldChangesNothing();
        bestOfNoDowser();
        bestQuestions();
        bestOfSeveral();
        bestWithoutWater();
        bestAtTheCorners();
        adviseNobody();
        adviseOneWithAPeg();
        adviseExactly();
        adviseMorePegs();
        adviseSmallestNumber();
        meanWithoutPegs();
        meanOfAllPegs();
        digestOfANewObject();
        digestInOrder();
        digestWrapsAround();
        digestSeesEachNumber();
        asking();
        CHECK.end();
    }

    private static void due(String what, long want, long got) {
        CHECK.due(what, want, got);
    }

    private static void wouldOfNoPit() {
        CHECK.sentence("Promise 16: Throws IndexOutOfBoundsException if there is no such pit");
        for (int bad : new int[] {-1, 4, States.LOW, States.HIGH}) {
            CHECK.refused("would of pit " + bad, BUSY, INDEX, on -> on.would(bad, 0, true));
            CHECK.refused("would of pit " + bad, BUSY, INDEX, on -> on.would(bad, 1, false));
        }
        CHECK.refused("would of pit 0 of none", States.dry(5), INDEX, on -> on.would(0, 0, true));
        CHECK.refused("would of pit 10 of 10", FULL, INDEX, on -> on.would(10, 0, true));
        CHECK.refused("would of pit 1 and dowser 3, though there are a pit 3 and a dowser 1", BUSY, INDEX, on -> on.would(1, 3, true));
        due("would of pit 9 of 10", 2 + 8, tenPits().make().would(9, 0, true));
    }

    /** On the last of 10 pits dowser 0 bets 2 coins that it finds water, dowser 4 bets 8 that it does not. */
    private static Setup tenPits() {
        Setup state = Setup.fresh("ten pits").then(States.dry(5));
        for (int i = 0; i < 10; i++) {
            int at = i;
            state = state.then(field -> field.pit(at, 0));
        }
        return state.then(field -> field.bet(0, 9, 2, true)).then(field -> field.bet(4, 9, 8, false));
    }

    private static void wouldOfNoDowser() {
        CHECK.sentence("Promise 16: Throws IndexOutOfBoundsException if there is no such .. dowser");
        for (int bad : new int[] {-1, 2, States.LOW, States.HIGH}) {
            CHECK.refused("would of dowser " + bad, BUSY, INDEX, on -> on.would(2, bad, true));
            CHECK.refused("would of dowser " + bad + ", over", BUSY, INDEX, on -> on.would(0, bad, true));
        }
        Setup pit = EMPTY.then(field -> field.pit(0, 0));
        CHECK.refused("would of dowser 0 of none", pit, INDEX, on -> on.would(0, 0, true));
        CHECK.refused("would of dowser 5 of 5", FULL, INDEX, on -> on.would(9, 5, true));
        CHECK.refused("would of dowser 5 of 5, over", FULL, INDEX, on -> on.would(0, 5, true));
        due("would of dowser 4 of 5", 2 + 8, tenPits().make().would(9, 4, false));
    }

    private static Setup betsOnWaterAt(int depth) {
        return States.dry(4).then(field -> field.vein(3, 3, 3, 3, depth, 1)).then(field -> field.pit(3, 3))
                .then(field -> field.bet(0, 0, 10, true)).then(field -> field.bet(1, 0, 7, true))
                .then(field -> field.bet(2, 0, 9, false));
    }

    private static void dueWould(String what, DowserPegs field, int... wants) {
        for (int dowser = 0; dowser < 4; dowser++) {
            due(what + ": finds, dowser " + dowser, wants[dowser], field.would(0, dowser, true));
            due(what + ": does not, dowser " + dowser, wants[4 + dowser], field.would(0, dowser, false));
        }
    }

    private static void wouldOfAPitThatIsOver() {
        CHECK.sentence("Promise 16: 0 if it is over");
        DowserPegs wet = betsOnWaterAt(20).make();
        dueWould("not dug", wet, 26 * 10 / 17, 26 * 7 / 17, 0, 0, 0, 0, 26, 0);
        wet.dig(0, 19);
        dueWould("19 deep", wet, 26 * 10 / 17, 26 * 7 / 17, 0, 0, 0, 0, 26, 0);
        wet.dig(0, 1);
        dueWould("found at 20", wet, 0, 0, 0, 0, 0, 0, 0, 0);
        DowserPegs shallow = betsOnWaterAt(1).make();
        dueWould("not dug, water at 1", shallow, 15, 10, 0, 0, 0, 0, 26, 0);
        shallow.dig(0, 1);
        dueWould("found at 1", shallow, 0, 0, 0, 0, 0, 0, 0, 0);
        DowserPegs dry = States.dry(1).make();
        dry.pit(0, 0);
        dry.bet(0, 0, 5, false);
        dry.dig(0, 19);
        due("dry, 19 deep", 5, dry.would(0, 0, false));
        dry.dig(0, 1);
        due("dry, 20 deep", 0, dry.would(0, 0, false));
    }

    private static void wouldAsThingsStand() {
        CHECK.sentence("Promise 16: Returns how many coins this dowser would get, if it was over so now");
        DowserPegs dry = States.dry(2).make();
        dry.pit(0, 0);
        dry.bet(0, 0, 4, true);
        due("alone", 4, dry.would(0, 0, true));
        due("alone, and wrong", 0, dry.would(0, 0, false));
        dry.bet(1, 0, 50, false);
        due("with another one's, though the pit is dry", 54, dry.would(0, 0, true));
        due("the other one", 54, dry.would(0, 1, false));
        due("the other one, and wrong", 0, dry.would(0, 1, true));
        // What is told is what is paid then.
        int would = dry.would(0, 1, false);
        int had = dry.told(1, 2);
        dry.dig(0, 20);
        due("paid", had + would, dry.told(1, 2));
        DowserPegs rich = States.dry(5).make();
        rich.pit(0, 0);
        for (int dowser = 0; dowser < 5; dowser++) {
            rich.bet(dowser, 0, 50, dowser > 0);
        }
        due("250 by four", 62, rich.would(0, 4, true));
        due("250 by one", 250, rich.would(0, 0, false));
    }

    private static void wouldWithoutABet() {
        CHECK.sentence("Promise 16: Returns how many coins this dowser would get (without a bet of his, or of anybody)");
        DowserPegs field = betsOnWaterAt(5).make();
        due("no bet of his", 0, field.would(0, 3, true));
        due("no bet of his", 0, field.would(0, 3, false));
        DowserPegs nobody = States.dry(1).make();
        nobody.pit(0, 0);
        due("nobody's", 0, nobody.would(0, 0, true));
        due("nobody's", 0, nobody.would(0, 0, false));
        nobody.dig(0, 20);
        due("nobody's, over", 0, nobody.would(0, 0, false));
    }

    private static void wouldChangesNothing() {
        CHECK.sentence("Promise 16: (nothing is changed)");
        for (int i = 0; i < 4; i++) {
            int pit = i;
            CHECK.unchanged("would, finds", BUSY, on -> on.would(pit, 0, true));
            CHECK.unchanged("would, does not", BUSY, on -> on.would(pit, 1, false));
            CHECK.unchanged("would, finds", FULL, on -> on.would(pit, 3, true));
        }
    }

    private static void bestOfNoDowser() {
        CHECK.sentence("Promise 17: Throws IndexOutOfBoundsException if there is no such dowser");
        for (int bad : new int[] {-1, 2, States.LOW, States.HIGH}) {
            CHECK.refused("best of dowser " + bad, BUSY, INDEX, on -> on.best(bad, 2));
        }
        CHECK.refused("best of dowser 0 of none", EMPTY, INDEX, on -> on.best(0, 0));
        CHECK.refused("best of dowser 5 of 5", FULL, INDEX, on -> on.best(5, 0));
        due("best of dowser 4 of 5", 81 + 20 + 3, FULL.make().best(4, 2));
    }

    private static void bestQuestions() {
        CHECK.sentence("Promise 17: Throws IndexOutOfBoundsException if .. what is not 0 to 2");
        for (int bad : new int[] {-1, 3, States.LOW, States.HIGH}) {
            CHECK.refused("best, what " + bad, BUSY, INDEX, on -> on.best(0, bad));
            CHECK.refused("best, what " + bad, FULL, INDEX, on -> on.best(4, bad));
        }
        CHECK.refused("best with all wrong", BUSY, INDEX, on -> on.best(2, 3));
        dueBest("busy", BUSY.make(), 0, 8, 5, 6 + 6 - 1);
    }

    private static void dueBest(String what, DowserPegs field, int dowser, int x, int y, int bend) {
        due(what + ": best(" + dowser + ", 0)", x, field.best(dowser, 0));
        due(what + ": best(" + dowser + ", 1)", y, field.best(dowser, 1));
        due(what + ": best(" + dowser + ", 2)", bend, field.best(dowser, 2));
    }

    /** Veins one spot long of flow 4 and depth 1 at these spots, x and y by turns; a dowser of feeling 1. */
    private static DowserPegs wells(int lean, int... spots) {
        DowserPegs field = new DowserPegs();
        field.dowser(1, lean);
        for (int i = 0; i + 1 < spots.length; i += 2) {
            field.vein(spots[i], spots[i + 1], spots[i], spots[i + 1], 1, 4);
        }
        return field;
    }

    private static void bestOfSeveral() {
        CHECK.sentence("Promise 17: of several the one with the smallest row, then the smallest column");
        dueBest("two in a row", wells(0, 12, 6, 3, 6), 0, 3, 6, 4);
        dueBest("two in a column", wells(0, 6, 12, 6, 3), 0, 6, 3, 4);
        dueBest("the smaller row before the smaller column", wells(0, 2, 8, 17, 7), 0, 17, 7, 4);
        dueBest("the smaller row, put first", wells(0, 17, 7, 2, 8), 0, 17, 7, 4);
        dueBest("the last of a row, and the first of the next", wells(0, 19, 7, 0, 8), 0, 19, 7, 4);
        dueBest("two at one spot bend more", wells(0, 2, 2, 9, 9, 9, 9), 0, 9, 9, 8);
        dueBest("beside two: half of each, no more than over one", wells(0, 5, 5, 7, 5), 0, 5, 5, 4);
        dueBest("over one, beside the other", wells(0, 5, 5, 6, 5), 0, 5, 5, 6);
    }

    private static void bestWithoutWater() {
        CHECK.sentence("Promise 17: of the spot at which this rod bends the most (the same everywhere)");
        for (int lean = -3; lean <= 3; lean++) {
            dueBest("no veins, lean " + lean, wells(lean), 0, 0, 0, Math.max(0, lean));
        }
        dueBest("4 less 3 over the vein, 0 elsewhere", wells(-3, 9, 9), 0, 9, 9, 1);
        DowserPegs field = new DowserPegs();
        field.dowser(1, -3);
        field.dowser(0, 2);
        field.vein(9, 9, 9, 9, 1, 3);
        dueBest("no more than the lean takes away", field, 0, 0, 0, 0);
        dueBest("without feeling", field, 1, 0, 0, 2);
    }

    private static void bestAtTheCorners() {
        CHECK.sentence("Promise 17: 0 its column, 1 its row, 2 how the rod bends there (at the field's corners)");
        dueBest("first", wells(0, 0, 0), 0, 0, 0, 4);
        dueBest("second", wells(0, 1, 0), 0, 1, 0, 4);
        dueBest("end of the first row", wells(0, 19, 0), 0, 19, 0, 4);
        dueBest("start of the last row", wells(0, 0, 19), 0, 0, 19, 4);
        dueBest("last", wells(0, 19, 19), 0, 19, 19, 4);
        dueBest("first and last", wells(3, 19, 19, 0, 0), 0, 0, 0, 7);
    }

    /** Row 4 is wet; each dowser has so many true pegs there, and so many false ones in row 9. */
    private static DowserPegs trueAndFalse(int... pegs) {
        DowserPegs field = States.dry(pegs.length / 2).make();
        field.vein(0, 4, 19, 4, 20, 1);
        int wet = 0;
        int dry = 0;
        for (int dowser = 0; dowser < pegs.length / 2; dowser++) {
            for (int i = 0; i < pegs[2 * dowser]; i++) {
                due("true peg", 1, field.walk(dowser, wet, 4, wet, 4));
                wet++;
            }
            for (int i = 0; i < pegs[2 * dowser + 1]; i++) {
                due("false peg", 1, field.walk(dowser, dry % 20, 9 + dry / 20, dry % 20, 9 + dry / 20));
                dry++;
            }
            due("true ones", pegs[2 * dowser], field.told(dowser, 4));
            due("pegs", pegs[2 * dowser] + pegs[2 * dowser + 1], field.told(dowser, 3));
        }
        return field;
    }

    private static void adviseNobody() {
        CHECK.sentence("Promise 18: -1 if none has a peg");
        due("no dowsers", -1, new DowserPegs().advise());
        due("no pegs", -1, trueAndFalse(0, 0, 0, 0).advise());
        DowserPegs field = trueAndFalse(0, 0, 1, 0);
        due("one", 1, field.advise());
        field.pull(0, 4);
        due("pulled out", -1, field.advise());
    }

    private static void adviseOneWithAPeg() {
        CHECK.sentence("Promise 18: of those with a peg");
        due("one false peg, of the last", 4, trueAndFalse(0, 0, 0, 0, 0, 0, 0, 0, 0, 1).advise());
        due("one false peg, of the first", 0, trueAndFalse(0, 1, 0, 0).advise());
        due("false pegs, and one who has none", 1, trueAndFalse(0, 0, 0, 3, 0, 0).advise());
        due("a true peg before false ones", 1, trueAndFalse(0, 9, 1, 19).advise());
    }

    private static void adviseExactly() {
        CHECK.sentence("Promise 18: of whom the greatest part of pegs is true (exactly; ..)");
        due("7 of 13 before 13 of 25", 1, trueAndFalse(13, 12, 7, 6).advise());
        due("7 of 13 before 13 of 25, the other way", 0, trueAndFalse(7, 6, 13, 12).advise());
        due("10 of 29 before 9 of 27 (a third)", 1, trueAndFalse(9, 18, 10, 19).advise());
        due("1 of 30 before 0 of 30", 1, trueAndFalse(0, 30, 1, 29).advise());
        due("1 of 29 before 1 of 30", 1, trueAndFalse(1, 29, 1, 28).advise());
        due("all before nearly all", 1, trueAndFalse(18, 1, 1, 0).advise());
        due("1 of 2 before 9 of 19", 0, trueAndFalse(1, 1, 9, 10).advise());
    }

    private static void adviseMorePegs() {
        CHECK.sentence("Promise 18: of several the one with more pegs");
        due("2 of 4 before 1 of 2", 1, trueAndFalse(1, 1, 2, 2).advise());
        due("2 of 4 before 1 of 2, the other way", 0, trueAndFalse(2, 2, 1, 1).advise());
        due("3 of 9 before 1 of 3 and 2 of 6", 1, trueAndFalse(1, 2, 3, 6, 2, 4).advise());
        due("2 of 2 before 1 of 1", 1, trueAndFalse(1, 0, 2, 0).advise());
        due("0 of 3 before 0 of 2", 1, trueAndFalse(0, 2, 0, 3).advise());
        due("1 of 1 before 2 of 3, which are more", 0, trueAndFalse(1, 0, 2, 1).advise());
    }

    private static void adviseSmallestNumber() {
        CHECK.sentence("Promise 18: then the smallest number");
        due("all alike", 0, trueAndFalse(1, 1, 1, 1, 1, 1, 1, 1, 1, 1).advise());
        due("the first has none", 1, trueAndFalse(0, 0, 2, 1, 2, 1).advise());
        due("all false", 0, trueAndFalse(0, 2, 0, 2).advise());
        due("two of three alike", 1, trueAndFalse(1, 2, 2, 2, 2, 2).advise());
    }

    private static void meanWithoutPegs() {
        CHECK.sentence("Promise 19: 0 without any");
        CHECK.due("a new object", 0.0, new DowserPegs().mean());
        DowserPegs field = trueAndFalse(1, 0);
        CHECK.due("one peg", 1.0, field.mean());
        field.pull(0, 4);
        CHECK.due("pulled out", 0.0, field.mean());
        CHECK.isTrue("0 is no -0", 1.0 / field.mean() > 0.0);
    }

    private static void meanOfAllPegs() {
        CHECK.sentence("Promise 19: Returns the mean water of all spots with a peg");
        CHECK.due("false pegs alone", 0.0, trueAndFalse(0, 5).mean());
        CHECK.due("1 of 3", 1.0 / 3.0, trueAndFalse(1, 2).mean());
        CHECK.due("of all dowsers", 3.0 / 7.0, trueAndFalse(1, 2, 2, 2).mean());
        CHECK.due("20 of 60", 20.0 / 60.0, trueAndFalse(20, 40).mean());
        DowserPegs deep = States.dry(1).make();
        for (int i = 0; i < 6; i++) {
            deep.vein(19, 19, 19, 19, 20, 9);
        }
        deep.walk(0, 19, 19, 19, 19);
        CHECK.due("54 of one", 54.0, deep.mean());
        deep.walk(0, 0, 0, 0, 0);
        CHECK.due("54 of two, the first and the last spot", 27.0, deep.mean());
        deep.walk(0, 1, 0, 5, 0);
        CHECK.due("54 of seven", 54.0 / 7.0, deep.mean());
    }

    /** What the digest is made of, in its order, each row asked of an object of its own. */
    private static List<Integer> numbers(Setup state) {
        List<Integer> numbers = new ArrayList<>();
        DowserPegs field = state.make();
        for (int what = 0; what <= 8; what++) {
            numbers.add(field.count(what));
        }
        for (int dowser = 0; dowser < field.count(1); dowser++) {
            for (int what = 0; what <= 7; what++) {
                numbers.add(field.told(dowser, what));
            }
        }
        for (int pit = 0; pit < field.count(3); pit++) {
            for (int what = 0; what <= 6; what++) {
                numbers.add(field.about(pit, what));
            }
        }
        for (int y = 0; y < 20; y++) {
            DowserPegs again = state.make();
            for (int x = 0; x < 20; x++) {
                for (int what = 0; what <= 3; what++) {
                    numbers.add(again.spot(x, y, what));
                }
            }
        }
        return numbers;
    }

    private static BigInteger unwrapped(List<Integer> numbers) {
        BigInteger d = BigInteger.valueOf(1801);
        for (int x : numbers) {
            d = d.multiply(BigInteger.valueOf(31)).add(BigInteger.valueOf(x));
        }
        return d;
    }

    private static void digestOfANewObject() {
        CHECK.sentence("Promise 20: A number d starts with 1801 (and there is nothing yet but counts and spots)");
        List<Integer> numbers = new ArrayList<>(List.of(0, 0, 0, 0, 3, 0, 0, 0, 0));
        for (int i = 0; i < 400; i++) {
            numbers.addAll(List.of(0, 0, -1, -1));
        }
        due("a new object", unwrapped(numbers).longValue(), new DowserPegs().digest());
    }

    private static void digestInOrder() {
        CHECK.sentence("Promise 20: what count() tells, in its order; for each dowser what told() tells; for each pit what"
                + " about() tells; for each spot, row by row from the smallest one, in each by columns,"
                + " what spot() tells for 0 to 3");
        Setup[] states = {EMPTY, States.dry(1), States.dry(5), EMPTY.then(field -> field.pit(19, 0)), BUSY, FULL, tenPits()};
        int[] dowsers = {0, 1, 5, 0, 2, 5, 5};
        int[] pits = {0, 0, 0, 1, 4, 10, 10};
        for (int i = 0; i < states.length; i++) {
            List<Integer> numbers = numbers(states[i]);
            due("numbers", 9 + 8 * dowsers[i] + 7 * pits[i] + 1600, numbers.size());
            due("digest of " + states[i].text(), unwrapped(numbers).longValue(), states[i].make().digest());
        }
    }

    private static void digestWrapsAround() {
        CHECK.sentence("Promise 20: d becomes d * 31 + x, which wraps around as a 64-bit integer");
        boolean belowZero = false;
        boolean aboveZero = false;
        for (int mark = 1; mark <= 30; mark++) {
            int itsMark = mark;
            Setup state = EMPTY.then(field -> field.setMark(itsMark));
            BigInteger whole = unwrapped(numbers(state));
            CHECK.isTrue("wraps around", whole.bitLength() > 64);
            long want = whole.longValue();
            due("mark " + mark, want, state.make().digest());
            belowZero |= want < 0;
            aboveZero |= want > 0;
        }
        CHECK.isTrue("some digests are below 0, some above", belowZero && aboveZero);
    }

    private static void dueOther(String what, Setup state, Setup.Step change) {
        CHECK.isTrue("another digest after " + what, state.make().digest() != state.then(change).make().digest());
    }

    private static void digestSeesEachNumber() {
        CHECK.sentence("Promise 20: Computes a checksum. (a change of any one number changes it)");
        dueOther("setMark", BUSY, field -> field.setMark(3));
        dueOther("vein", BUSY, field -> field.vein(19, 19, 19, 19, 20, 1));
        dueOther("dowser", BUSY, field -> field.dowser(0, 0));
        dueOther("walk", BUSY, field -> field.walk(1, 19, 19, 19, 19));
        dueOther("pull", BUSY, field -> field.pull(19, 18));
        dueOther("pit", BUSY, field -> field.pit(19, 19));
        dueOther("bet", BUSY, field -> field.bet(0, 3, 1, true));
        dueOther("dig", BUSY, field -> field.dig(3, 1));
        long finds = BUSY.then(field -> field.bet(0, 3, 1, true)).make().digest();
        long not = BUSY.then(field -> field.bet(0, 3, 1, false)).make().digest();
        CHECK.isTrue("another digest by how is bet", finds != not);
    }

    private static void asking() {
        CHECK.sentence("Terms: it is told .. who had best be followed (asking changes nothing)");
        for (Setup state : new Setup[] {EMPTY, BUSY, FULL}) {
            CHECK.unchanged("advise()", state, on -> on.advise());
            CHECK.unchanged("mean()", state, on -> on.mean());
            CHECK.unchanged("digest()", state, on -> on.digest());
        }
        for (int i = 0; i < 3; i++) {
            int what = i;
            CHECK.unchanged("best(..)", BUSY, on -> on.best(0, what));
            CHECK.unchanged("best(..)", FULL, on -> on.best(4, what));
        }
    }
}

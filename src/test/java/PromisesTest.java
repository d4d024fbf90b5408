/** Each promise of the document by hand-made cases: ordinary inputs, the edges it names, and wrong inputs. */
public final class PromisesTest {
    private static final Check CHECK = new Check("PromisesTest");
    private static final Class<IndexOutOfBoundsException> INDEX = IndexOutOfBoundsException.class;
    private static final Class<IllegalArgumentException> ARGUMENT = IllegalArgumentException.class;
    private static final Class<IllegalStateException> STATE = IllegalStateException.class;
    private static final int LOW = Integer.MIN_VALUE;
    private static final int HIGH = Integer.MAX_VALUE;

    public static void main(String[] args) {
        newObject();
        veins();
        veinThrows();
        dowsers();
        marks();
        walks();
        walkStopsAtSixty();
        pulls();
        pits();
        bets();
        betThrows();
        digs();
        digPays();
        spots();
        rods();
        tolds();
        abouts();
        counts();
        lines();
        linesOfDiagonals();
        woulds();
        bests();
        advice();
        means();
        digests();
        firstAndLast();
        fullField();
        CHECK.end();
    }

    private static void due(String what, long want, long got) {
        CHECK.due(what, want, got);
    }

    /** A call that throws the exception and leaves what can be told as it was. */
    private static void refused(String what, DowserPegs on, Class<? extends RuntimeException> want, Check.Call call) {
        long before = on.digest();
        CHECK.isThrown(what, want, call);
        due(what + ": digest after it", before, on.digest());
    }

    /** A field without water on which each dowser's rod bends by the lean alone. */
    private static DowserPegs dry(int dowsers) {
        DowserPegs field = new DowserPegs();
        for (int i = 0; i < dowsers; i++) {
            field.dowser(0, 3);
        }
        return field;
    }

    private static DowserPegs crossing() {
        DowserPegs field = new DowserPegs();
        field.vein(2, 5, 12, 5, 4, 6);
        field.vein(8, 0, 8, 10, 2, 3);
        return field;
    }

    private static void newObject() {
        DowserPegs field = new DowserPegs();
        int[] wants = {0, 0, 0, 0, 3, 0, 0, 0, 0};
        for (int what = 0; what < wants.length; what++) {
            due("new: count(" + what + ")", wants[what], field.count(what));
        }
        int[] spot = {0, 0, -1, -1, 0, -1};
        for (int what = 0; what < spot.length; what++) {
            due("new: spot(0, 0, " + what + ")", spot[what], field.spot(0, 0, what));
            due("new: spot(19, 19, " + what + ")", spot[what], field.spot(19, 19, what));
        }
        CHECK.isThrown("new: told", INDEX, () -> field.told(0, 0));
        CHECK.isThrown("new: about", INDEX, () -> field.about(0, 0));
        due("new: advise", -1, field.advise());
        // Objects share nothing.
        DowserPegs other = new DowserPegs();
        other.setMark(9);
        other.dowser(1, 1);
        due("new: mark of the other one", 3, field.count(4));
        due("new: dowsers of the other one", 0, field.count(1));
    }

    private static void veins() {
        DowserPegs field = new DowserPegs();
        due("row to the right", 0, field.vein(2, 5, 5, 5, 4, 6));
        due("column upwards", 1, field.vein(3, 7, 3, 4, 9, 1));
        due("diagonal to the left and down", 2, field.vein(19, 0, 0, 19, 20, 9));
        due("diagonal to the left and up", 3, field.vein(19, 19, 17, 17, 1, 1));
        due("a single spot", 4, field.vein(10, 0, 10, 0, 2, 2));
        int[][] wets = {{2, 5, 6, 4}, {5, 5, 6, 4}, {3, 5, 7, 4}, {3, 7, 1, 9}, {3, 4, 1, 9}, {19, 0, 9, 20},
                {0, 19, 9, 20}, {10, 9, 9, 20}, {18, 18, 1, 1}, {17, 17, 1, 1}, {10, 0, 2, 2},
                {1, 5, 0, 0}, {6, 5, 0, 0}, {3, 3, 0, 0}, {3, 8, 0, 0}, {16, 16, 0, 0}, {11, 0, 0, 0}, {10, 10, 0, 0}};
        for (int[] wet : wets) {
            due("water of " + wet[0] + ", " + wet[1], wet[2], field.spot(wet[0], wet[1], 0));
            due("depth of " + wet[0] + ", " + wet[1], wet[3], field.spot(wet[0], wet[1], 1));
        }
        due("spots with water", 4 + 3 + 20 + 3 + 1, field.count(5));
        due("the sixth vein", 5, field.vein(10, 0, 10, 1, 20, 9));
        due("flows added", 11, field.spot(10, 0, 0));
        due("a deeper one later leaves the least depth", 2, field.spot(10, 0, 1));
        DowserPegs same = new DowserPegs();
        same.vein(0, 0, 19, 0, 8, 1);
        same.vein(0, 0, 19, 0, 3, 1);
        due("a shallower one later", 3, same.spot(19, 0, 1));
        due("on one line both flow", 2, same.spot(19, 0, 0));
    }

    private static void veinThrows() {
        DowserPegs field = new DowserPegs();
        for (int bad : new int[] {-1, 20, LOW, HIGH}) {
            refused("vein x " + bad, field, INDEX, () -> field.vein(bad, 0, 0, 0, 1, 1));
            refused("vein y " + bad, field, INDEX, () -> field.vein(0, bad, 0, 0, 1, 1));
            refused("vein tx " + bad, field, INDEX, () -> field.vein(0, 0, bad, 0, 1, 1));
            refused("vein ty " + bad, field, INDEX, () -> field.vein(0, 0, 0, bad, 1, 1));
        }
        refused("vein askew", field, ARGUMENT, () -> field.vein(0, 0, 1, 2, 1, 1));
        refused("vein askew to the left", field, ARGUMENT, () -> field.vein(9, 9, 4, 5, 1, 1));
        for (int bad : new int[] {0, -1, 21, LOW, HIGH}) {
            refused("vein depth " + bad, field, ARGUMENT, () -> field.vein(0, 0, 1, 1, bad, 1));
        }
        for (int bad : new int[] {0, -1, 10, LOW, HIGH}) {
            refused("vein flow " + bad, field, ARGUMENT, () -> field.vein(0, 0, 1, 1, 1, bad));
        }
        refused("vein: index before argument", field, INDEX, () -> field.vein(0, 0, 1, 20, 0, 0));
        for (int i = 0; i < 6; i++) {
            due("vein " + i, i, field.vein(i, 0, i, 3, 20, 9));
        }
        refused("a seventh vein", field, STATE, () -> field.vein(0, 0, 1, 1, 1, 1));
        refused("a seventh: argument before state", field, ARGUMENT, () -> field.vein(0, 0, 1, 1, 1, 0));
        refused("a seventh: askew before state", field, ARGUMENT, () -> field.vein(0, 0, 1, 2, 1, 1));
        refused("a seventh: index before all", field, INDEX, () -> field.vein(20, 0, 1, 1, 0, 0));
    }

    private static void dowsers() {
        DowserPegs field = new DowserPegs();
        for (int bad : new int[] {-1, 10, LOW, HIGH}) {
            refused("dowser feeling " + bad, field, ARGUMENT, () -> field.dowser(bad, 0));
        }
        for (int bad : new int[] {-4, 4, LOW, HIGH}) {
            refused("dowser lean " + bad, field, ARGUMENT, () -> field.dowser(0, bad));
        }
        due("dowser", 0, field.dowser(0, -3));
        due("dowser", 1, field.dowser(9, 3));
        due("dowser", 2, field.dowser(5, 0));
        due("dowser", 3, field.dowser(5, 0));
        due("dowser", 4, field.dowser(1, 1));
        refused("a sixth dowser", field, STATE, () -> field.dowser(5, 0));
        refused("a sixth: argument before state", field, ARGUMENT, () -> field.dowser(10, 0));
        due("dowsers", 5, field.count(1));
        due("feeling", 9, field.told(1, 0));
        due("lean", -3, field.told(0, 1));
        due("coins at first", 50, field.told(4, 2));
    }

    private static void marks() {
        DowserPegs field = dry(1);
        due("mark at first", 3, field.setMark(1));
        due("mark before", 1, field.setMark(30));
        due("mark", 30, field.count(4));
        for (int bad : new int[] {0, -1, 31, LOW, HIGH}) {
            refused("mark " + bad, field, ARGUMENT, () -> field.setMark(bad));
        }
        due("mark after wrong ones", 30, field.setMark(4));
        due("a mark above the rod", 0, field.walk(0, 0, 0, 5, 5));
        field.setMark(3);
        due("a mark as high as the rod", 11, field.walk(0, 0, 0, 5, 5));
    }

    private static void walks() {
        DowserPegs field = dry(2);
        due("to the right and down", 5, field.walk(0, 2, 3, 4, 5));
        int[][] way = {{2, 3}, {3, 3}, {4, 3}, {4, 4}, {4, 5}};
        for (int[] spot : way) {
            due("peg at " + spot[0] + ", " + spot[1], 0, field.spot(spot[0], spot[1], 2));
        }
        due("not by the column first", -1, field.spot(2, 4, 2));
        due("only where no peg is, to the left and up", 3, field.walk(1, 4, 5, 2, 3));
        due("the first one's peg stays", 0, field.spot(4, 5, 2));
        due("to the left along row 5", 1, field.spot(3, 5, 2));
        due("upwards along column 2", 1, field.spot(2, 4, 2));
        due("one spot alone", 1, field.walk(1, 19, 19, 19, 19));
        due("the same again", 0, field.walk(0, 19, 19, 19, 19));
        due("a column alone", 4, field.walk(1, 9, 9, 9, 6));
        due("a row alone", 4, field.walk(1, 13, 0, 10, 0));
        due("pegs", 5 + 3 + 1 + 4 + 4, field.count(2));
        for (int bad : new int[] {-1, 2, LOW, HIGH}) {
            refused("walk dowser " + bad, field, INDEX, () -> field.walk(bad, 0, 0, 0, 0));
        }
        for (int bad : new int[] {-1, 20, LOW, HIGH}) {
            refused("walk x " + bad, field, INDEX, () -> field.walk(0, bad, 0, 0, 0));
            refused("walk y " + bad, field, INDEX, () -> field.walk(0, 0, bad, 0, 0));
            refused("walk tx " + bad, field, INDEX, () -> field.walk(0, 0, 0, bad, 0));
            refused("walk ty " + bad, field, INDEX, () -> field.walk(0, 0, 0, 0, bad));
        }
        DowserPegs wet = crossing();
        wet.dowser(4, -3);
        // Over (7, 5): 6 - 3 + half of 6 (the column beside) = 6; beside the row alone 3 - 3 = 0.
        wet.setMark(6);
        due("only spots that bend so much", 3, wet.walk(0, 0, 5, 19, 5));
        due("left of the crossing", 0, wet.spot(7, 5, 2));
        due("at the crossing", 0, wet.spot(8, 5, 2));
        due("too little further off", -1, wet.spot(6, 5, 2));
    }

    private static void walkStopsAtSixty() {
        DowserPegs field = dry(2);
        due("first row", 20, field.walk(0, 0, 0, 19, 0));
        due("second row", 20, field.walk(0, 19, 1, 0, 1));
        due("third row, half", 10, field.walk(1, 0, 2, 9, 2));
        due("till there are 60", 10, field.walk(1, 19, 10, 0, 19));
        due("pegs at the most", 60, field.count(2));
        due("the first of the way", 1, field.spot(19, 10, 2));
        due("the tenth of the way", 1, field.spot(10, 10, 2));
        due("none behind it", -1, field.spot(9, 10, 2));
        due("none any more", 0, field.walk(0, 0, 5, 19, 5));
        field.pull(0, 0);
        due("one again", 1, field.walk(1, 0, 5, 19, 5));
    }

    private static void pulls() {
        DowserPegs field = dry(3);
        field.walk(2, 4, 7, 6, 7);
        due("pull", 2, field.pull(5, 7));
        due("no peg there then", -1, field.spot(5, 7, 2));
        due("the next one stands", 2, field.spot(6, 7, 2));
        due("pegs", 2, field.count(2));
        due("pegs of the dowser", 2, field.told(2, 3));
        refused("pull again", field, STATE, () -> field.pull(5, 7));
        refused("pull where column and row change places", field, STATE, () -> field.pull(7, 4));
        for (int bad : new int[] {-1, 20, LOW, HIGH}) {
            refused("pull x " + bad, field, INDEX, () -> field.pull(bad, 7));
            refused("pull y " + bad, field, INDEX, () -> field.pull(4, bad));
        }
        field.walk(0, 5, 7, 5, 7);
        due("another one's peg there", 0, field.pull(5, 7));
    }

    private static void pits() {
        DowserPegs field = crossing();
        due("pit", 0, field.pit(8, 5));
        due("pit", 1, field.pit(5, 8));
        due("the pit at a spot", 0, field.spot(8, 5, 3));
        due("the pit at another spot", 1, field.spot(5, 8, 3));
        due("its column", 5, field.about(1, 0));
        due("its row", 8, field.about(1, 1));
        for (int bad : new int[] {-1, 20, LOW, HIGH}) {
            refused("pit x " + bad, field, INDEX, () -> field.pit(bad, 0));
            refused("pit y " + bad, field, INDEX, () -> field.pit(0, bad));
        }
        refused("a pit where one is", field, STATE, () -> field.pit(8, 5));
        field.dig(0, 20);
        refused("a pit where one is over", field, STATE, () -> field.pit(8, 5));
        for (int i = 2; i < 10; i++) {
            due("pit", i, field.pit(i, 19));
        }
        refused("an eleventh pit", field, STATE, () -> field.pit(0, 0));
        refused("an eleventh pit: index before state", field, INDEX, () -> field.pit(0, 20));
        due("pits", 10, field.count(3));
    }

    private static void bets() {
        DowserPegs field = dry(2);
        field.pit(1, 1);
        field.pit(2, 2);
        due("coins after a bet", 49, field.bet(0, 0, 1, true));
        due("all coins", 0, field.bet(0, 1, 49, false));
        due("another dowser", 0, field.bet(1, 0, 50, false));
        due("coins in bets", 50, field.told(0, 5));
        due("bet that it finds", 1, field.about(0, 5));
        due("bet that it does not", 50, field.about(0, 6));
        due("bet on the other pit", 49, field.about(1, 6));
        due("coins of all dowsers", 0, field.count(8));
    }

    private static void betThrows() {
        DowserPegs field = dry(2);
        field.pit(1, 1);
        field.pit(2, 2);
        for (int bad : new int[] {-1, 2, LOW, HIGH}) {
            refused("bet dowser " + bad, field, INDEX, () -> field.bet(bad, 0, 1, true));
            refused("bet pit " + bad, field, INDEX, () -> field.bet(0, bad, 1, true));
        }
        for (int bad : new int[] {0, -1, 100, LOW, HIGH}) {
            refused("bet coins " + bad, field, ARGUMENT, () -> field.bet(0, 0, bad, true));
        }
        refused("more coins than there are", field, STATE, () -> field.bet(0, 0, 51, true));
        refused("99 coins are too many by state", field, STATE, () -> field.bet(0, 0, 99, true));
        refused("bet: index before argument", field, INDEX, () -> field.bet(0, 2, 0, true));
        field.bet(0, 0, 10, true);
        refused("a second bet", field, STATE, () -> field.bet(0, 0, 1, true));
        refused("a second bet, other way", field, STATE, () -> field.bet(0, 0, 1, false));
        refused("bet: argument before state", field, ARGUMENT, () -> field.bet(0, 0, 100, true));
        field.dig(0, 1);
        refused("bet on a pit that has been dug", field, STATE, () -> field.bet(1, 0, 1, true));
        field.dig(0, 20);
        refused("bet on a pit that is over", field, STATE, () -> field.bet(1, 0, 1, true));
        due("the other pit is free", 49, field.bet(1, 1, 1, true));
    }

    private static void digs() {
        DowserPegs field = crossing();
        field.pit(3, 5);
        field.pit(0, 0);
        field.pit(8, 5);
        due("dig", 3, field.dig(0, 3));
        due("not found yet", 0, field.about(0, 3));
        due("not over yet", 0, field.about(0, 4));
        due("no deeper than the water", 4, field.dig(0, 20));
        due("found", 1, field.about(0, 3));
        due("over", 1, field.about(0, 4));
        refused("dig what is over", field, STATE, () -> field.dig(0, 1));
        refused("dig: argument before state", field, ARGUMENT, () -> field.dig(0, 0));
        refused("dig: index before argument", field, INDEX, () -> field.dig(3, 0));
        for (int bad : new int[] {-1, 3, LOW, HIGH}) {
            refused("dig pit " + bad, field, INDEX, () -> field.dig(bad, 1));
        }
        for (int bad : new int[] {0, -1, 21, LOW, HIGH}) {
            refused("dig by " + bad, field, ARGUMENT, () -> field.dig(1, bad));
        }
        due("dry, 19 deep", 19, field.dig(1, 19));
        due("dry, not over", 0, field.about(1, 4));
        due("dry, no deeper than 20", 20, field.dig(1, 2));
        due("dry, over", 1, field.about(1, 4));
        due("dry, not found", 0, field.about(1, 3));
        refused("dig the dry one again", field, STATE, () -> field.dig(1, 1));
        due("the least depth of two veins", 2, field.dig(2, 20));
        laterVeins();
    }

    private static void laterVeins() {
        DowserPegs field = new DowserPegs();
        field.pit(4, 4);
        field.vein(4, 4, 4, 4, 5, 5);
        field.vein(9, 9, 9, 9, 20, 5);
        field.pit(9, 9);
        field.vein(9, 9, 9, 9, 3, 5);
        due("a vein that comes later is not found", 20, field.dig(0, 20));
        due("so it ends dry", 0, field.about(0, 3));
        due("the depth of before", 19, field.dig(1, 19));
        due("not found at 19", 0, field.about(1, 3));
        due("found at 20", 20, field.dig(1, 1));
        due("found at 20", 1, field.about(1, 3));
    }

    private static void digPays() {
        DowserPegs field = dry(5);
        field.vein(3, 3, 3, 3, 7, 7);
        field.pit(3, 3);
        field.pit(0, 0);
        field.pit(1, 0);
        field.bet(0, 0, 10, true);
        field.bet(1, 0, 7, true);
        field.bet(2, 0, 9, false);
        field.bet(3, 0, 5, false);
        field.dig(0, 6);
        due("nothing is paid before it is over", 40, field.told(0, 2));
        due("still in bets", 10, field.told(0, 5));
        field.dig(0, 6);
        // 31 in all, 17 right: 31 * 10 / 17 = 18, 31 * 7 / 17 = 12, 1 is left.
        int[] coins = {40 + 18, 43 + 12, 41, 45, 50};
        int[] right = {1, 1, 0, 0, 0};
        int[] wrong = {0, 0, 1, 1, 0};
        for (int dowser = 0; dowser < 5; dowser++) {
            due("coins of " + dowser, coins[dowser], field.told(dowser, 2));
            due("in bets of " + dowser, 0, field.told(dowser, 5));
            due("right bets of " + dowser, right[dowser], field.told(dowser, 6));
            due("wrong bets of " + dowser, wrong[dowser], field.told(dowser, 7));
        }
        due("the field's", 1, field.count(7));
        due("of all dowsers", 249, field.count(8));
        field.bet(3, 1, 4, true);
        field.bet(4, 1, 3, true);
        field.dig(1, 20);
        due("nobody was right", 8, field.count(7));
        due("nobody gets any", 41, field.told(3, 2));
        due("wrong bets", 2, field.told(3, 7));
        field.bet(4, 2, 47, false);
        field.bet(3, 2, 1, true);
        field.dig(2, 20);
        due("right that it is dry", 48, field.told(4, 2));
        due("the field gets none", 8, field.count(7));
        due("one right", 1, field.told(4, 6));
        due("one wrong", 1, field.told(4, 7));
        due("as they were bet, though paid", 47, field.about(2, 6));
    }

    private static void spots() {
        DowserPegs field = dry(2);
        field.walk(1, 5, 5, 5, 5);
        field.walk(0, 4, 6, 4, 6);
        field.walk(0, 0, 0, 0, 0);
        due("two pegs 1 far", 2, field.spot(4, 5, 4));
        due("the spot's own peg is not 1 far", 0, field.spot(5, 5, 4));
        due("diagonal is 2 far", 0, field.spot(6, 6, 4));
        due("1 far in a column", 1, field.spot(5, 4, 4));
        due("own peg is 0 far", 0, field.spot(5, 5, 5));
        due("1 far", 1, field.spot(5, 6, 5));
        due("columns and rows added", 14 + 14, field.spot(19, 19, 5));
        due("to the corner's peg", 2, field.spot(1, 1, 5));
        due("at the border, in no row around it", 0, field.spot(19, 0, 4));
        field.walk(0, 19, 1, 19, 1);
        due("the end of the row before is not 1 far", 0, field.spot(0, 2, 4));
        due("nor the end of the own row", 1, field.spot(0, 1, 4));
        field.walk(1, 10, 10, 12, 12);
        field.walk(1, 10, 11, 10, 12);
        due("three", 3, field.spot(11, 11, 4));
        field.walk(1, 11, 12, 11, 12);
        due("four", 4, field.spot(11, 11, 4));
        for (int bad : new int[] {-1, 20, LOW, HIGH}) {
            refused("spot x " + bad, field, INDEX, () -> field.spot(bad, 0, 0));
            refused("spot y " + bad, field, INDEX, () -> field.spot(0, bad, 0));
        }
        for (int bad : new int[] {-1, 6, LOW, HIGH}) {
            refused("spot what " + bad, field, INDEX, () -> field.spot(0, 0, bad));
        }
    }

    private static void rods() {
        DowserPegs field = crossing();
        field.vein(0, 0, 9, 9, 10, 9);
        field.dowser(4, 0);
        field.dowser(9, -3);
        field.dowser(0, 3);
        field.dowser(3, -1);
        due("over two", 6 + 6, field.rod(0, 8, 5));
        due("over one, beside the other", 6 + 3, field.rod(0, 7, 5));
        due("over the column, beside the diagonal: 27 / 2, half of 81 / 10, lean -3", 13 + 4 - 3, field.rod(1, 8, 9));
        due("lean below 0 leaves 0", 0, field.rod(1, 15, 15));
        due("lean alone", 3, field.rod(2, 8, 5));
        due("cut before added: 18 / 4 and half of 9 / 2, lean -1", 4 + 2 - 1, field.rod(3, 7, 5));
        due("beside the end", 18 / 4 / 2 - 1, field.rod(3, 1, 5));
        due("two beside the end", 0, field.rod(3, 0, 6));
        DowserPegs ends = new DowserPegs();
        ends.vein(19, 0, 19, 0, 1, 9);
        ends.dowser(9, 0);
        due("over the single spot", 81, ends.rod(0, 19, 0));
        due("left of it", 40, ends.rod(0, 18, 0));
        due("below it", 40, ends.rod(0, 19, 1));
        due("diagonal to it is 2 far", 0, ends.rod(0, 18, 1));
        due("the next row's start is not beside", 0, ends.rod(0, 0, 1));
        due("the other end of the column", 0, ends.rod(0, 19, 19));
        for (int bad : new int[] {-1, 4, LOW, HIGH}) {
            refused("rod dowser " + bad, field, INDEX, () -> field.rod(bad, 0, 0));
        }
        for (int bad : new int[] {-1, 20, LOW, HIGH}) {
            refused("rod x " + bad, field, INDEX, () -> field.rod(0, bad, 0));
            refused("rod y " + bad, field, INDEX, () -> field.rod(0, 0, bad));
        }
    }

    private static void tolds() {
        DowserPegs field = crossing();
        field.dowser(7, -2);
        field.dowser(0, 3);
        field.walk(1, 0, 5, 3, 5);
        due("feeling", 7, field.told(0, 0));
        due("lean", -2, field.told(0, 1));
        due("coins", 50, field.told(0, 2));
        due("pegs", 4, field.told(1, 3));
        due("true ones", 2, field.told(1, 4));
        due("no pegs of the other", 0, field.told(0, 3));
        field.vein(0, 5, 0, 6, 1, 1);
        due("a later vein makes a peg true", 3, field.told(1, 4));
        field.pull(3, 5);
        due("a true one pulled", 2, field.told(1, 4));
        field.pit(0, 5);
        field.pit(19, 19);
        field.bet(1, 0, 5, false);
        field.bet(1, 1, 6, false);
        due("coins in bets", 11, field.told(1, 5));
        due("no bet is right before it is paid", 0, field.told(1, 6) + field.told(1, 7));
        field.dig(0, 1);
        due("in bets that are not paid", 6, field.told(1, 5));
        due("wrong", 1, field.told(1, 7));
        field.dig(1, 20);
        due("right", 1, field.told(1, 6));
        for (int bad : new int[] {-1, 2, LOW, HIGH}) {
            refused("told dowser " + bad, field, INDEX, () -> field.told(bad, 0));
        }
        for (int bad : new int[] {-1, 8, LOW, HIGH}) {
            refused("told what " + bad, field, INDEX, () -> field.told(0, bad));
        }
    }

    private static void abouts() {
        DowserPegs field = dry(3);
        field.vein(0, 0, 19, 0, 5, 1);
        field.pit(17, 0);
        field.bet(0, 0, 5, true);
        field.bet(1, 0, 6, true);
        field.bet(2, 0, 8, false);
        int[] before = {17, 0, 0, 0, 0, 11, 8};
        for (int what = 0; what < before.length; what++) {
            due("about(0, " + what + ")", before[what], field.about(0, what));
        }
        field.dig(0, 4);
        due("how deep", 4, field.about(0, 2));
        field.dig(0, 4);
        int[] after = {17, 0, 5, 1, 1, 11, 8};
        for (int what = 0; what < after.length; what++) {
            due("about(0, " + what + ") then", after[what], field.about(0, what));
        }
        for (int bad : new int[] {-1, 1, LOW, HIGH}) {
            refused("about pit " + bad, field, INDEX, () -> field.about(bad, 0));
        }
        for (int bad : new int[] {-1, 7, LOW, HIGH}) {
            refused("about what " + bad, field, INDEX, () -> field.about(0, bad));
        }
    }

    private static void counts() {
        DowserPegs field = crossing();
        field.dowser(0, 3);
        field.dowser(1, 0);
        field.walk(0, 0, 5, 3, 5);
        field.pit(19, 19);
        field.bet(0, 0, 9, true);
        field.bet(1, 0, 1, false);
        field.setMark(17);
        int[] wants = {2, 2, 4, 1, 17, 21, 2, 0, 90};
        for (int what = 0; what < wants.length; what++) {
            due("count(" + what + ")", wants[what], field.count(what));
        }
        field.dig(0, 20);
        due("coins of all dowsers, paid", 100, field.count(8));
        field.pit(18, 18);
        field.bet(0, 1, 9, true);
        field.dig(1, 20);
        due("coins of the field", 9, field.count(7));
        for (int bad : new int[] {-1, 9, LOW, HIGH}) {
            refused("count what " + bad, field, INDEX, () -> field.count(bad));
        }
    }

    private static void dueLine(String what, DowserPegs field, int pegs, int kind, int number) {
        due(what + ": line(0)", pegs, field.line(0));
        due(what + ": line(1)", kind, field.line(1));
        due(what + ": line(2)", number, field.line(2));
    }

    private static void pegAt(DowserPegs field, int... spots) {
        for (int i = 0; i + 1 < spots.length; i += 2) {
            due("peg put", 1, field.walk(0, spots[i], spots[i + 1], spots[i], spots[i + 1]));
        }
    }

    private static void lines() {
        DowserPegs field = dry(1);
        dueLine("no pegs", field, 0, -1, -1);
        pegAt(field, 7, 3);
        dueLine("one peg: its row", field, 1, 0, 3);
        pegAt(field, 7, 9);
        dueLine("a column", field, 2, 1, 7);
        pegAt(field, 10, 3);
        dueLine("a row before a column", field, 2, 0, 3);
        pegAt(field, 12, 1, 13, 1);
        dueLine("the smaller row", field, 2, 0, 1);
        pegAt(field, 7, 15);
        dueLine("the column again", field, 3, 1, 7);
        pegAt(field, 2, 11, 2, 12, 2, 13);
        dueLine("the smaller column", field, 3, 1, 2);
        pegAt(field, 19, 3, 0, 3);
        dueLine("the whole row", field, 4, 0, 3);
        field.pull(7, 3);
        field.pull(10, 3);
        dueLine("after pulling", field, 3, 1, 2);
        for (int bad : new int[] {-1, 3, LOW, HIGH}) {
            refused("line what " + bad, field, INDEX, () -> field.line(bad));
        }
        refused("line what 3 without pegs", new DowserPegs(), INDEX, () -> new DowserPegs().line(3));
    }

    private static void linesOfDiagonals() {
        DowserPegs rising = dry(1);
        pegAt(rising, 0, 17, 1, 18, 2, 19);
        dueLine("x - y below 0", rising, 3, 2, -17);
        pegAt(rising, 19, 4, 17, 2, 16, 1);
        dueLine("the smaller x - y", rising, 3, 2, -17);
        pegAt(rising, 15, 0);
        dueLine("x - y above 0", rising, 4, 2, 15);
        DowserPegs middle = dry(1);
        pegAt(middle, 0, 0, 19, 19);
        dueLine("the middle one", middle, 2, 2, 0);
        DowserPegs falling = dry(1);
        pegAt(falling, 0, 19, 19, 0);
        dueLine("x + y", falling, 2, 3, 19);
        pegAt(falling, 2, 1, 1, 2);
        dueLine("the smaller x + y", falling, 2, 3, 3);
        pegAt(falling, 19, 18, 18, 19, 17, 17);
        dueLine("still the smaller one", falling, 2, 0, 19);
        falling.pull(0, 19);
        dueLine("a column before diagonals", falling, 2, 1, 19);
        falling.pull(19, 0);
        dueLine("a diagonal of kind 2 before one of kind 3", falling, 2, 2, -1);
        DowserPegs corner = dry(1);
        pegAt(corner, 19, 18, 18, 19);
        dueLine("a great x + y", corner, 2, 3, 37);
    }

    private static void woulds() {
        DowserPegs field = dry(5);
        field.pit(0, 0);
        field.bet(0, 0, 10, true);
        field.bet(1, 0, 7, true);
        field.bet(2, 0, 9, false);
        due("if it finds", 26 * 10 / 17, field.would(0, 0, true));
        due("if it finds", 26 * 7 / 17, field.would(0, 1, true));
        due("was wrong then", 0, field.would(0, 2, true));
        due("if it does not", 26, field.would(0, 2, false));
        due("was wrong then", 0, field.would(0, 0, false));
        due("no bet", 0, field.would(0, 3, true));
        due("nothing is changed", 40, field.told(0, 2));
        field.dig(0, 19);
        due("not over yet", 26, field.would(0, 2, false));
        field.dig(0, 1);
        due("0 if it is over", 0, field.would(0, 2, false));
        due("no bets at all", 0, fresh().would(0, 0, true));
        for (int bad : new int[] {-1, 1, LOW, HIGH}) {
            refused("would pit " + bad, field, INDEX, () -> field.would(bad, 0, true));
        }
        for (int bad : new int[] {-1, 5, LOW, HIGH}) {
            refused("would dowser, of a pit that is over, " + bad, field, INDEX, () -> field.would(0, bad, true));
        }
    }

    private static DowserPegs fresh() {
        DowserPegs field = dry(1);
        field.pit(4, 4);
        return field;
    }

    private static void dueBest(String what, DowserPegs field, int dowser, int x, int y, int bend) {
        due(what + ": best(0)", x, field.best(dowser, 0));
        due(what + ": best(1)", y, field.best(dowser, 1));
        due(what + ": best(2)", bend, field.best(dowser, 2));
    }

    private static void bests() {
        DowserPegs field = crossing();
        field.dowser(4, 1);
        field.dowser(0, -3);
        dueBest("the crossing", field, 0, 8, 5, 13);
        dueBest("all 0", field, 1, 0, 0, 0);
        DowserPegs rows = new DowserPegs();
        rows.vein(12, 6, 12, 9, 1, 5);
        rows.vein(3, 7, 3, 12, 1, 5);
        rows.dowser(2, 0);
        dueBest("the smallest row before the smallest column", rows, 0, 12, 6, 10);
        rows.vein(3, 6, 3, 6, 1, 5);
        // Over the new spot 10, and 5 of the vein that starts below it.
        dueBest("over one, beside one", rows, 0, 3, 6, 15);
        DowserPegs corner = new DowserPegs();
        corner.vein(19, 19, 19, 19, 1, 1);
        corner.dowser(3, 0);
        dueBest("the last spot", corner, 0, 19, 19, 3);
        for (int bad : new int[] {-1, 2, LOW, HIGH}) {
            refused("best dowser " + bad, field, INDEX, () -> field.best(bad, 0));
        }
        for (int bad : new int[] {-1, 3, LOW, HIGH}) {
            refused("best what " + bad, field, INDEX, () -> field.best(0, bad));
        }
    }

    private static void advice() {
        DowserPegs field = dry(4);
        field.vein(0, 4, 19, 4, 6, 9);
        due("no pegs", -1, field.advise());
        field.walk(3, 0, 0, 1, 0);
        due("a peg, though none is true", 3, field.advise());
        field.walk(2, 2, 0, 4, 0);
        due("of 0 parts the one with more pegs", 2, field.advise());
        field.walk(1, 5, 0, 7, 0);
        due("then the smallest number", 1, field.advise());
        field.walk(3, 0, 4, 0, 4);
        due("1 of 3 before 0 of 3", 3, field.advise());
        field.walk(2, 1, 4, 3, 4);
        due("3 of 6 before 1 of 3", 2, field.advise());
        field.walk(0, 4, 4, 4, 4);
        due("1 of 1 before 3 of 6", 0, field.advise());
        field.pull(4, 4);
        field.pull(5, 0);
        field.pull(6, 0);
        field.walk(1, 8, 4, 8, 4);
        due("3 of 6 before 1 of 2: more pegs", 2, field.advise());
        exactAdvice();
    }

    private static void exactAdvice() {
        DowserPegs field = dry(2);
        field.vein(0, 4, 19, 4, 6, 9);
        field.walk(0, 0, 4, 12, 4);
        field.walk(0, 0, 0, 12, 0);
        field.pull(12, 0);
        field.walk(1, 13, 4, 19, 4);
        field.walk(1, 13, 0, 18, 0);
        // 13 of 25 (0.52) and 7 of 13 (0.538): the same in tenths, and as whole parts.
        due("exactly", 1, field.advise());
    }

    private static void means() {
        DowserPegs field = dry(1);
        field.vein(0, 4, 19, 4, 6, 9);
        field.vein(0, 0, 0, 19, 6, 2);
        CHECK.due("mean without pegs", 0.0, field.mean());
        field.walk(0, 5, 4, 5, 4);
        CHECK.due("mean of one", 9.0, field.mean());
        field.walk(0, 0, 4, 0, 4);
        CHECK.due("mean of two", 10.0, field.mean());
        field.walk(0, 10, 10, 10, 10);
        CHECK.due("a dry peg counts as well", 20.0 / 3.0, field.mean());
        field.pull(5, 4);
        field.pull(0, 4);
        CHECK.due("dry pegs alone", 0.0, field.mean());
    }

    /** What stands at the first spot, row, column and depth counts as much as elsewhere. */
    private static void firstAndLast() {
        DowserPegs field = dry(1);
        field.vein(0, 0, 0, 0, 1, 5);
        field.vein(19, 19, 19, 19, 1, 7);
        due("first and last spot are wet", 2, field.count(5));
        pegAt(field, 0, 0);
        due("the peg at the first spot is true", 1, field.told(0, 4));
        due("true pegs", 1, field.count(6));
        CHECK.due("mean at the first spot", 5.0, field.mean());
        dueLine("the first row", field, 1, 0, 0);
        pegAt(field, 19, 19);
        due("the peg at the last spot is true", 2, field.told(0, 4));
        due("true pegs", 2, field.count(6));
        CHECK.due("mean at the first and the last spot", 6.0, field.mean());
        field.pull(0, 0);
        field.pull(19, 19);
        pegAt(field, 0, 3, 0, 9);
        dueLine("the first column", field, 2, 1, 0);
        field.pull(0, 3);
        field.pull(0, 9);
        pegAt(field, 19, 0, 0, 1, 1, 0);
        dueLine("a corner's diagonal is no other line", field, 2, 0, 0);
        field.pit(0, 0);
        field.bet(0, 0, 1, true);
        refused("a second bet after one of 1 coin", field, STATE, () -> field.bet(0, 0, 1, true));
        due("water 1 deep", 1, field.dig(0, 20));
        DowserPegs second = new DowserPegs();
        second.vein(1, 0, 1, 0, 1, 5);
        second.dowser(4, 0);
        dueBest("the second spot", second, 0, 1, 0, 20);
    }

    /** As many veins, dowsers and pits as there may be. */
    private static void fullField() {
        DowserPegs field = dry(4);
        for (int i = 0; i < 6; i++) {
            field.vein(0, i, 19, i, i + 1, 9);
        }
        field.dowser(9, 0);
        // Over the last row of veins 81 / 6, beside the one above half of 81 / 5.
        due("rod", 13 + 8, field.rod(4, 19, 5));
        due("rod at the last spot", 0, field.rod(4, 19, 19));
        field.setMark(21);
        due("walk", 1, field.walk(4, 19, 5, 19, 19));
        due("advise", 4, field.advise());
        dueBest("full", field, 4, 0, 0, 81 + 20);
        for (int i = 0; i < 10; i++) {
            field.pit(i, i);
            field.bet(4, i, 1 + i % 2, true);
        }
        due("in bets", 15, field.told(4, 5));
        for (int i = 0; i < 10; i++) {
            due("deep", i < 6 ? i + 1 : 20, field.dig(i, 20));
        }
        due("right", 6, field.told(4, 6));
        due("wrong", 4, field.told(4, 7));
        due("coins", 50 - 15 + 9, field.told(4, 2));
        due("the field's", 6, field.count(7));
    }

    private static DowserPegs surveyed() {
        DowserPegs field = crossing();
        field.dowser(4, -1);
        field.dowser(0, 3);
        field.setMark(2);
        field.walk(0, 4, 3, 10, 7);
        field.walk(1, 19, 17, 17, 19);
        field.pit(5, 8);
        field.pit(8, 5);
        field.bet(0, 1, 7, true);
        field.bet(1, 1, 8, false);
        field.bet(1, 0, 9, false);
        field.dig(1, 20);
        return field;
    }

    private static void digests() {
        // A new field: the counts, and for each spot 0, 0, -1, -1.
        long empty = 1801;
        int[] counts = {0, 0, 0, 0, 3, 0, 0, 0, 0};
        for (int x : counts) {
            empty = empty * 31 + x;
        }
        for (int spot = 0; spot < 400; spot++) {
            empty = ((empty * 31 * 31) * 31 - 1) * 31 - 1;
        }
        due("digest of a new object", empty, new DowserPegs().digest());
        due("digest is what the others tell", digestByTelling(), surveyed().digest());
        DowserPegs twice = surveyed();
        due("digest changes nothing", twice.digest(), twice.digest());
    }

    /** Each row is asked of an object of its own, so that none is used for more than 512 calls. */
    private static long digestByTelling() {
        DowserPegs field = surveyed();
        long d = 1801;
        for (int what = 0; what <= 8; what++) {
            d = d * 31 + field.count(what);
        }
        for (int dowser = 0; dowser < 2; dowser++) {
            for (int what = 0; what <= 7; what++) {
                d = d * 31 + field.told(dowser, what);
            }
        }
        for (int pit = 0; pit < 2; pit++) {
            for (int what = 0; what <= 6; what++) {
                d = d * 31 + field.about(pit, what);
            }
        }
        for (int y = 0; y < 20; y++) {
            DowserPegs again = surveyed();
            for (int x = 0; x < 20; x++) {
                for (int what = 0; what <= 3; what++) {
                    d = d * 31 + again.spot(x, y, what);
                }
            }
        }
        return d;
    }
}

/** The edges that the document names of what there is: promises 10 to 15. */
public final class TellEdgesTest {
    private static final Check CHECK = new Check("TellEdgesTest");
    private static final Class<IndexOutOfBoundsException> INDEX = IndexOutOfBoundsException.class;
    private static final int[] NO_SPOTS = {-1, 20, States.LOW, States.HIGH};
    private static final Setup EMPTY = States.empty();
    private static final Setup BUSY = States.busy();
    private static final Setup FULL = States.full();

    public static void main(String[] args) {
        spotOutOfTheField();
        spotQuestions();
        spotWater();
        spotDowser();
        spotPit();
        spotPegsOneFar();
        spotPegsOneFarAtTheEdges();
        spotNearestPeg();
        spotNearestAtTheCorners();
        rodOfNoDowser();
        rodOutOfTheField();
        toldOfNoDowser();
        toldQuestions();
        toldPegs();
        toldBets();
        aboutNoPit();
        aboutQuestions();
        aboutAsTheyWereBet();
        countQuestions();
        countSpotsWithWater();
        countCoins();
        lineQuestions();
        lineWithoutPegs();
        lineOfOnePeg();
        lineSmallestKind();
        lineSmallestNumber();
        lineNumbers();
        lineWhole();
        asking();
        CHECK.end();
    }

    private static void due(String what, long want, long got) {
        CHECK.due(what, want, got);
    }

    private static void spotOutOfTheField() {
        CHECK.sentence("Promise 10: Throws IndexOutOfBoundsException if x or y is not 0 to 19");
        for (int bad : NO_SPOTS) {
            for (int i = 0; i <= 5; i++) {
                int what = i;
                CHECK.refused("spot in column " + bad, BUSY, INDEX, on -> on.spot(bad, 1, what));
                CHECK.refused("spot in row " + bad, BUSY, INDEX, on -> on.spot(0, bad, what));
            }
            CHECK.refused("spot in column " + bad, EMPTY, INDEX, on -> on.spot(bad, 0, 0));
            CHECK.refused("spot in row " + bad, FULL, INDEX, on -> on.spot(19, bad, 0));
        }
    }

    private static void spotQuestions() {
        CHECK.sentence("Promise 10: Throws IndexOutOfBoundsException if .. what is not 0 to 5");
        for (int bad : new int[] {-1, 6, States.LOW, States.HIGH}) {
            CHECK.refused("spot, what " + bad, BUSY, INDEX, on -> on.spot(0, 0, bad));
            CHECK.refused("spot, what " + bad, EMPTY, INDEX, on -> on.spot(19, 19, bad));
        }
        CHECK.refused("spot with all wrong", BUSY, INDEX, on -> on.spot(-1, 20, 6));
        int[] wants = {9, 2, 1, 0, 4, 0};
        DowserPegs field = BUSY.make();
        field.walk(1, 8, 4, 8, 4);
        field.walk(1, 8, 6, 8, 6);
        field.walk(1, 7, 5, 7, 5);
        field.walk(1, 8, 5, 9, 5);
        for (int what = 0; what <= 5; what++) {
            due("spot(8, 5, " + what + ")", wants[what], field.spot(8, 5, what));
        }
    }

    private static void spotWater() {
        CHECK.sentence("Promise 10: 0 its water, 1 its depth, 0 without water");
        DowserPegs field = new DowserPegs();
        due("water", 0, field.spot(0, 0, 0));
        due("depth without water", 0, field.spot(0, 0, 1));
        field.vein(0, 0, 18, 0, 20, 1);
        due("water at the end", 1, field.spot(18, 0, 0));
        due("depth at the end", 20, field.spot(18, 0, 1));
        due("water beyond the end", 0, field.spot(19, 0, 0));
        due("depth beyond the end", 0, field.spot(19, 0, 1));
        due("water of the last spot of a full vein", 9, FULL.make().spot(19, 5, 0));
        due("depth of the last spot of a full vein", 6, FULL.make().spot(19, 5, 1));
    }

    private static void spotDowser() {
        CHECK.sentence("Promise 10: 2 the dowser whose peg is there, -1 without one");
        DowserPegs field = States.dry(5).make();
        for (int dowser = 0; dowser < 5; dowser++) {
            due("before", -1, field.spot(19, 15 + dowser, 2));
            field.walk(dowser, 19, 15 + dowser, 19, 15 + dowser);
            due("with a peg", dowser, field.spot(19, 15 + dowser, 2));
            due("beside it", -1, field.spot(18, 15 + dowser, 2));
        }
        field.pull(19, 15);
        due("pulled out", -1, field.spot(19, 15, 2));
        due("below it", 1, field.spot(19, 16, 2));
    }

    private static void spotPit() {
        CHECK.sentence("Promise 10: 3 the pit there, -1 without one");
        DowserPegs field = new DowserPegs();
        for (int pit = 0; pit < 10; pit++) {
            due("before", -1, field.spot(pit, 19, 3));
            field.pit(pit, 19);
            due("with a pit", pit, field.spot(pit, 19, 3));
            due("above it", -1, field.spot(pit, 18, 3));
        }
        field.dig(0, 20);
        due("one that is over is there still", 0, field.spot(0, 19, 3));
        due("column and row changed", -1, field.spot(19, 0, 3));
    }

    private static void spotPegsOneFar() {
        CHECK.sentence("Promise 10: 4 how many pegs are 1 far from it");
        DowserPegs field = States.dry(2).make();
        due("without pegs", 0, field.spot(9, 9, 4));
        field.walk(0, 9, 9, 9, 9);
        due("its own peg is 0 far", 0, field.spot(9, 9, 4));
        int[][] diagonals = {{8, 8}, {10, 8}, {8, 10}, {10, 10}, {9, 7}, {9, 11}, {7, 9}, {11, 9}};
        for (int[] spot : diagonals) {
            field.walk(0, spot[0], spot[1], spot[0], spot[1]);
            due("those that are 2 far", 0, field.spot(9, 9, 4));
        }
        int[][] besides = {{8, 9}, {10, 9}, {9, 8}, {9, 10}};
        for (int i = 0; i < besides.length; i++) {
            due("so far", i, field.spot(9, 9, 4));
            field.walk(i % 2, besides[i][0], besides[i][1], besides[i][0], besides[i][1]);
            due("one more, of any dowser", i + 1, field.spot(9, 9, 4));
        }
        field.pull(9, 9);
        due("around a spot without a peg", 4, field.spot(9, 9, 4));
        field.pull(9, 8);
        due("one less", 3, field.spot(9, 9, 4));
    }

    private static void spotPegsOneFarAtTheEdges() {
        CHECK.sentence("Promise 10: 4 how many pegs are 1 far from it (at the field's edges)");
        DowserPegs field = States.dry(1).make();
        field.walk(0, 0, 0, 19, 19);
        field.walk(0, 18, 19, 0, 19);
        due("pegs in the first row, the last column, the last row", 58, field.count(2));
        int[][] wants = {{0, 0, 1}, {1, 0, 2}, {19, 0, 2}, {0, 1, 1}, {1, 1, 1}, {18, 1, 2}, {0, 2, 0}, {0, 6, 0},
            {18, 5, 1}, {19, 5, 2}, {0, 18, 1}, {18, 18, 2}, {0, 19, 1}, {1, 19, 2}, {19, 19, 2}};
        for (int[] want : wants) {
            due("at " + want[0] + ", " + want[1], want[2], field.spot(want[0], want[1], 4));
        }
        DowserPegs left = States.dry(1).make();
        left.walk(0, 0, 1, 0, 18);
        int[][] others = {{0, 0, 1}, {0, 1, 1}, {0, 2, 2}, {0, 18, 1}, {0, 19, 1}, {1, 1, 1}, {1, 0, 0}, {19, 0, 0},
            {19, 1, 0}, {19, 9, 0}, {19, 19, 0}};
        for (int[] other : others) {
            due("left: at " + other[0] + ", " + other[1], other[2], left.spot(other[0], other[1], 4));
        }
    }

    private static void spotNearestPeg() {
        CHECK.sentence("Promise 10: 5 how far the nearest peg is, -1 without any");
        DowserPegs field = States.dry(1).make();
        due("without any", -1, field.spot(9, 9, 5));
        field.walk(0, 19, 0, 19, 0);
        due("columns and rows added", 10 + 9, field.spot(9, 9, 5));
        field.walk(0, 1, 1, 1, 1);
        due("nearer by both", 16, field.spot(9, 9, 5));
        field.walk(0, 9, 19, 9, 19);
        due("nearer in the column", 10, field.spot(9, 9, 5));
        field.walk(0, 0, 9, 0, 9);
        due("nearer in the row", 9, field.spot(9, 9, 5));
        field.walk(0, 13, 13, 13, 13);
        due("nearer aslant", 8, field.spot(9, 9, 5));
        field.walk(0, 10, 9, 10, 9);
        due("1 far", 1, field.spot(9, 9, 5));
        field.walk(0, 9, 9, 9, 9);
        due("its own is 0 far", 0, field.spot(9, 9, 5));
        field.pull(9, 9);
        field.pull(10, 9);
        due("pulled out", 8, field.spot(9, 9, 5));
        DowserPegs pulled = States.dry(1).make();
        pulled.walk(0, 5, 5, 5, 5);
        pulled.pull(5, 5);
        due("none any more", -1, pulled.spot(5, 5, 5));
    }

    private static void spotNearestAtTheCorners() {
        CHECK.sentence("Terms: how far two spots are from each other .., added (as far as may be)");
        int[][] corners = {{0, 0}, {19, 0}, {0, 19}, {19, 19}};
        for (int[] corner : corners) {
            DowserPegs field = States.dry(1).make();
            field.walk(0, corner[0], corner[1], corner[0], corner[1]);
            for (int i = 0; i < 400; i++) {
                int far = Math.abs(i % 20 - corner[0]) + Math.abs(i / 20 - corner[1]);
                due("from " + i % 20 + ", " + i / 20, far, field.spot(i % 20, i / 20, 5));
            }
            due("from the other corner", 38, field.spot(19 - corner[0], 19 - corner[1], 5));
        }
    }

    private static void rodOfNoDowser() {
        CHECK.sentence("Promise 11: Throws IndexOutOfBoundsException if there is no such dowser");
        for (int bad : new int[] {-1, 2, States.LOW, States.HIGH}) {
            CHECK.refused("rod of dowser " + bad, BUSY, INDEX, on -> on.rod(bad, 8, 5));
        }
        CHECK.refused("rod of dowser 0 of none", EMPTY, INDEX, on -> on.rod(0, 0, 0));
        CHECK.refused("rod of dowser 5 of 5", FULL, INDEX, on -> on.rod(5, 0, 0));
        due("rod of dowser 4 of 5", 81 + 20 + 3, FULL.make().rod(4, 0, 0));
    }

    private static void rodOutOfTheField() {
        CHECK.sentence("Promise 11: Throws IndexOutOfBoundsException if .. x or y is not 0 to 19");
        for (int bad : NO_SPOTS) {
            CHECK.refused("rod in column " + bad, BUSY, INDEX, on -> on.rod(0, bad, 1));
            CHECK.refused("rod in row " + bad, BUSY, INDEX, on -> on.rod(0, 1, bad));
            CHECK.refused("rod in column " + bad, FULL, INDEX, on -> on.rod(4, bad, 0));
            CHECK.refused("rod in row " + bad, FULL, INDEX, on -> on.rod(4, 19, bad));
        }
        CHECK.refused("rod with all wrong", BUSY, INDEX, on -> on.rod(2, 20, -1));
    }

    private static void toldOfNoDowser() {
        CHECK.sentence("Promise 12: Throws IndexOutOfBoundsException if there is no such dowser");
        for (int bad : new int[] {-1, 2, States.LOW, States.HIGH}) {
            CHECK.refused("told of dowser " + bad, BUSY, INDEX, on -> on.told(bad, 7));
        }
        CHECK.refused("told of dowser 0 of none", EMPTY, INDEX, on -> on.told(0, 0));
        CHECK.refused("told of dowser 5 of 5", FULL, INDEX, on -> on.told(5, 0));
        due("told of dowser 4 of 5", 9, FULL.make().told(4, 0));
        CHECK.refused("told with all wrong", BUSY, INDEX, on -> on.told(2, 8));
    }

    private static void toldQuestions() {
        CHECK.sentence("Promise 12: Throws IndexOutOfBoundsException if .. what is not 0 to 7");
        for (int bad : new int[] {-1, 8, States.LOW, States.HIGH}) {
            CHECK.refused("told, what " + bad, BUSY, INDEX, on -> on.told(0, bad));
            CHECK.refused("told, what " + bad, FULL, INDEX, on -> on.told(4, bad));
        }
        int[][] wants = {{4, -1, 50 - 7 + 15 - 3, 6, 2, 3, 1, 0}, {0, 3, 50 - 8 - 9, 6, 0, 9, 0, 1}};
        DowserPegs field = BUSY.make();
        for (int dowser = 0; dowser < 2; dowser++) {
            for (int what = 0; what < 8; what++) {
                due("told(" + dowser + ", " + what + ")", wants[dowser][what], field.told(dowser, what));
            }
        }
    }

    private static void toldPegs() {
        CHECK.sentence("Promise 12: 3 pegs, 4 true ones (none, and as many as there may be)");
        DowserPegs field = States.dry(2).make();
        due("no pegs", 0, field.told(0, 3));
        due("no true ones", 0, field.told(0, 4));
        field.vein(0, 0, 19, 0, 1, 1);
        field.vein(19, 1, 0, 1, 1, 1);
        field.vein(0, 2, 19, 2, 1, 1);
        for (int row = 0; row < 3; row++) {
            field.walk(0, 0, row, 19, row);
        }
        due("60 pegs", 60, field.told(0, 3));
        due("60 true ones", 60, field.told(0, 4));
        due("60 true ones of all", 60, field.count(6));
        due("none of the other one", 0, field.told(1, 3) + field.told(1, 4));
        due("advise", 0, field.advise());
        CHECK.due("mean", 1.0, field.mean());
    }

    private static void toldBets() {
        CHECK.sentence("Promise 12: 5 coins in bets that are not paid, 6 bets that were right, 7 bets that were wrong,"
                + " of those that were paid");
        DowserPegs field = States.dry(2).make();
        field.vein(0, 0, 0, 0, 10, 1);
        field.pit(0, 0);
        field.pit(1, 1);
        dueBets("no bets", field, 0, 0, 0);
        field.bet(0, 0, 1, true);
        field.bet(0, 1, 2, true);
        dueBets("not dug", field, 3, 0, 0);
        field.dig(0, 9);
        field.dig(1, 19);
        dueBets("not over", field, 3, 0, 0);
        field.dig(0, 1);
        dueBets("one right", field, 2, 1, 0);
        field.dig(1, 1);
        dueBets("one wrong", field, 0, 1, 1);
        due("a dowser without bets", 0, field.told(1, 5) + field.told(1, 6) + field.told(1, 7));
        DowserPegs against = States.dry(1).make();
        against.vein(0, 0, 0, 0, 10, 1);
        against.pit(0, 0);
        against.pit(1, 1);
        against.bet(0, 0, 1, false);
        against.bet(0, 1, 2, false);
        against.dig(0, 20);
        dueBets("wrong that it does not", against, 2, 0, 1);
        against.dig(1, 20);
        dueBets("right that it does not", against, 0, 1, 1);
    }

    private static void dueBets(String what, DowserPegs field, int open, int right, int wrong) {
        due(what + ": coins in bets", open, field.told(0, 5));
        due(what + ": right", right, field.told(0, 6));
        due(what + ": wrong", wrong, field.told(0, 7));
    }

    private static void aboutNoPit() {
        CHECK.sentence("Promise 13: Throws IndexOutOfBoundsException if there is no such pit");
        for (int bad : new int[] {-1, 4, States.LOW, States.HIGH}) {
            CHECK.refused("about pit " + bad, BUSY, INDEX, on -> on.about(bad, 6));
        }
        CHECK.refused("about pit 0 of none", EMPTY, INDEX, on -> on.about(0, 0));
        CHECK.refused("about pit 10 of 10", FULL, INDEX, on -> on.about(10, 0));
        due("about pit 9 of 10", 9, FULL.make().about(9, 0));
        CHECK.refused("about with all wrong", BUSY, INDEX, on -> on.about(4, 7));
    }

    private static void aboutQuestions() {
        CHECK.sentence("Promise 13: Throws IndexOutOfBoundsException if .. what is not 0 to 6");
        for (int bad : new int[] {-1, 7, States.LOW, States.HIGH}) {
            CHECK.refused("about, what " + bad, BUSY, INDEX, on -> on.about(0, bad));
            CHECK.refused("about, what " + bad, FULL, INDEX, on -> on.about(9, bad));
        }
        int[][] wants = {{8, 5, 2, 1, 1, 7, 8}, {5, 8, 3, 0, 0, 0, 9}, {0, 1, 0, 0, 0, 3, 0}, {19, 0, 0, 0, 0, 0, 0}};
        DowserPegs field = BUSY.make();
        for (int pit = 0; pit < 4; pit++) {
            for (int what = 0; what < 7; what++) {
                due("about(" + pit + ", " + what + ")", wants[pit][what], field.about(pit, what));
            }
        }
    }

    private static void aboutAsTheyWereBet() {
        CHECK.sentence("Promise 13: 5 coins bet that it finds water, 6 coins bet that it does not"
                + " (as they were bet, paid or not)");
        DowserPegs field = States.dry(5).make();
        field.pit(4, 4);
        int[] finds = {50, 50, 100, 100, 150};
        int[] not = {0, 50, 50, 100, 100};
        for (int dowser = 0; dowser < 5; dowser++) {
            field.bet(dowser, 0, 50, dowser % 2 == 0);
            due("that it finds", finds[dowser], field.about(0, 5));
            due("that it does not", not[dowser], field.about(0, 6));
        }
        field.dig(0, 19);
        due("that it finds, not paid", 150, field.about(0, 5));
        field.dig(0, 1);
        due("that it finds, paid", 150, field.about(0, 5));
        due("that it does not, paid", 100, field.about(0, 6));
    }

    private static void countQuestions() {
        CHECK.sentence("Promise 14: Throws IndexOutOfBoundsException if what is not 0 to 8");
        for (int bad : new int[] {-1, 9, States.LOW, States.HIGH}) {
            CHECK.refused("count " + bad, BUSY, INDEX, on -> on.count(bad));
            CHECK.refused("count " + bad, EMPTY, INDEX, on -> on.count(bad));
            CHECK.refused("count " + bad, FULL, INDEX, on -> on.count(bad));
        }
        int[] wants = {2, 2, 12, 4, 2, 21, 2, 0, 55 + 33};
        DowserPegs field = BUSY.make();
        for (int what = 0; what < wants.length; what++) {
            due("count(" + what + ")", wants[what], field.count(what));
        }
    }

    private static void countSpotsWithWater() {
        CHECK.sentence("Promise 14: 5 spots with water (none, and where veins cross)");
        DowserPegs field = new DowserPegs();
        due("without veins", 0, field.count(5));
        field.vein(5, 5, 5, 5, 1, 1);
        due("one", 1, field.count(5));
        field.vein(0, 5, 19, 5, 1, 1);
        due("a row, over it", 20, field.count(5));
        field.vein(5, 0, 5, 19, 1, 1);
        due("a column, crossing", 39, field.count(5));
        field.vein(0, 0, 19, 19, 1, 1);
        due("a diagonal through the crossing", 58, field.count(5));
        due("six rows", 120, FULL.make().count(5));
    }

    private static void countCoins() {
        CHECK.sentence("Promise 14: 7 coins of the field, 8 coins of all dowsers");
        DowserPegs field = new DowserPegs();
        due("without dowsers", 0, field.count(8));
        for (int dowser = 0; dowser < 5; dowser++) {
            field.dowser(0, 0);
            due("50 each", 50 * (dowser + 1), field.count(8));
        }
        field.pit(0, 0);
        field.bet(4, 0, 50, true);
        due("coins in bets are nobody's", 200, field.count(8));
        due("nor the field's, not paid", 0, field.count(7));
        field.dig(0, 20);
        due("the field's", 50, field.count(7));
        due("the dowsers'", 200, field.count(8));
    }

    private static void dueLine(String what, DowserPegs field, int pegs, int kind, int number) {
        due(what + ": line(0)", pegs, field.line(0));
        due(what + ": line(1)", kind, field.line(1));
        due(what + ": line(2)", number, field.line(2));
    }

    /** A dry field with pegs at these spots, x and y by turns. */
    private static DowserPegs pegs(int... spots) {
        DowserPegs field = States.dry(1).make();
        for (int i = 0; i + 1 < spots.length; i += 2) {
            due("peg put", 1, field.walk(0, spots[i], spots[i + 1], spots[i], spots[i + 1]));
        }
        return field;
    }

    private static void lineQuestions() {
        CHECK.sentence("Promise 15: Throws IndexOutOfBoundsException if what is not 0 to 2");
        for (int bad : new int[] {-1, 3, States.LOW, States.HIGH}) {
            CHECK.refused("line " + bad, BUSY, INDEX, on -> on.line(bad));
            CHECK.refused("line " + bad, EMPTY, INDEX, on -> on.line(bad));
            CHECK.refused("line " + bad, FULL, INDEX, on -> on.line(bad));
        }
        dueLine("of many, the smallest row with 20", FULL.make(), 20, 0, 0);
    }

    private static void lineWithoutPegs() {
        CHECK.sentence("Promise 15: -1 for 1 and 2 without pegs");
        dueLine("a new object", new DowserPegs(), 0, -1, -1);
        dueLine("a dry field", States.dry(5).make(), 0, -1, -1);
        DowserPegs field = pegs(4, 7);
        dueLine("one peg", field, 1, 0, 7);
        field.pull(4, 7);
        dueLine("pulled out", field, 0, -1, -1);
    }

    private static void lineOfOnePeg() {
        CHECK.sentence("Promise 15: of several the smallest kind, then the smallest number (one peg)");
        int[][] spots = {{0, 0}, {19, 0}, {0, 19}, {19, 19}, {7, 12}};
        for (int[] spot : spots) {
            dueLine("at " + spot[0] + ", " + spot[1], pegs(spot), 1, 0, spot[1]);
        }
    }

    private static void lineSmallestKind() {
        CHECK.sentence("Promise 15: of several the smallest kind");
        dueLine("a row and a column", pegs(3, 9, 5, 9, 3, 1), 2, 0, 9);
        dueLine("a row and diagonals", pegs(3, 9, 5, 9, 4, 10, 4, 8), 2, 0, 9);
        dueLine("a column and a diagonal of kind 2", pegs(9, 3, 9, 5, 1, 10, 2, 11), 2, 1, 9);
        dueLine("a column and a diagonal of kind 3", pegs(9, 3, 9, 5, 1, 12, 2, 11), 2, 1, 9);
        dueLine("diagonals of kinds 2 and 3", pegs(11, 1, 10, 2, 5, 14, 6, 15), 2, 2, -9);
        dueLine("a diagonal of kind 3 alone", pegs(11, 1, 10, 2), 2, 3, 12);
        dueLine("a longer one of kind 3 before all", pegs(11, 1, 10, 2, 9, 3, 11, 5, 9, 5, 10, 6), 3, 3, 12);
        dueLine("a longer one of kind 2 before rows", pegs(1, 1, 2, 2, 3, 3, 2, 1, 3, 5), 3, 2, 0);
        dueLine("a longer column before a row", pegs(1, 1, 5, 1, 5, 2, 5, 3), 3, 1, 5);
    }

    private static void lineSmallestNumber() {
        CHECK.sentence("Promise 15: then the smallest number");
        dueLine("rows", pegs(0, 19, 5, 19, 7, 8, 12, 8), 2, 0, 8);
        dueLine("rows, put the other way", pegs(7, 8, 12, 8, 0, 19, 5, 19), 2, 0, 8);
        dueLine("columns", pegs(19, 0, 19, 5, 8, 7, 8, 12), 2, 1, 8);
        dueLine("diagonals of kind 2", pegs(19, 1, 18, 0, 0, 15, 4, 19), 2, 2, -15);
        dueLine("diagonals of kind 2 around the middle one", pegs(3, 3, 8, 8, 5, 4, 2, 1), 2, 2, 0);
        dueLine("diagonals of kind 3", pegs(19, 14, 18, 15, 1, 0, 0, 1), 2, 3, 1);
    }

    private static void lineNumbers() {
        CHECK.sentence("Promise 15: 2 its number: of a row y, of a column x, of a diagonal of the kind 2 x - y,"
                + " of the kind 3 x + y (the least and the greatest)");
        dueLine("the first row", pegs(0, 0, 19, 0), 2, 0, 0);
        dueLine("the second row", pegs(0, 1, 19, 1), 2, 0, 1);
        dueLine("the last row", pegs(0, 19, 19, 19), 2, 0, 19);
        dueLine("the first column", pegs(0, 0, 0, 19), 2, 1, 0);
        dueLine("the second column", pegs(1, 0, 1, 19), 2, 1, 1);
        dueLine("the last column", pegs(19, 0, 19, 19), 2, 1, 19);
        dueLine("the lowest diagonal of two spots of kind 2", pegs(0, 18, 1, 19), 2, 2, -18);
        dueLine("the uppermost one", pegs(18, 0, 19, 1), 2, 2, 18);
        dueLine("the middle one", pegs(0, 0, 19, 19), 2, 2, 0);
        dueLine("the least one of two spots of kind 3", pegs(0, 1, 1, 0), 2, 3, 1);
        dueLine("the greatest one", pegs(18, 19, 19, 18), 2, 3, 37);
        dueLine("the middle one", pegs(0, 19, 19, 0), 2, 3, 19);
    }

    private static void lineWhole() {
        CHECK.sentence("Promise 15: a row, a column or a diagonal of the field, whole");
        dueLine("a row with gaps", pegs(0, 6, 7, 6, 19, 6, 3, 1, 3, 2), 3, 0, 6);
        dueLine("a column with gaps", pegs(6, 0, 6, 7, 6, 19, 1, 3, 2, 3), 3, 1, 6);
        dueLine("a diagonal with gaps", pegs(0, 2, 9, 11, 17, 19, 5, 1, 5, 4), 3, 2, -2);
        dueLine("a falling diagonal with gaps", pegs(0, 17, 9, 8, 17, 0, 5, 1, 5, 4), 3, 3, 17);
        // A row's end and the next row's start are no neighbours on a diagonal.
        dueLine("a diagonal ends at the field's edge", pegs(19, 5, 0, 7, 19, 14, 0, 6), 2, 1, 0);
        DowserPegs whole = States.dry(1).make();
        for (int i = 0; i < 20; i++) {
            whole.walk(0, i, 19 - i, i, 19 - i);
        }
        dueLine("all the falling diagonal", whole, 20, 3, 19);
    }

    private static void asking() {
        CHECK.sentence("Terms: it is told what there is (asking changes nothing)");
        for (Setup state : new Setup[] {BUSY, FULL}) {
            for (int i = 0; i < 9; i++) {
                int what = i;
                CHECK.unchanged("count(" + what + ")", state, on -> on.count(what));
                CHECK.unchanged("told(0, ..)", state, on -> on.told(0, what % 8));
                CHECK.unchanged("about(1, ..)", state, on -> on.about(1, what % 7));
                CHECK.unchanged("spot(8, 5, ..)", state, on -> on.spot(8, 5, what % 6));
                CHECK.unchanged("line(..)", state, on -> on.line(what % 3));
            }
            CHECK.unchanged("rod(0, 8, 5)", state, on -> on.rod(0, 8, 5));
        }
    }
}

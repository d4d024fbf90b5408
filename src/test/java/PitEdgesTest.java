/** The edges that the document names of pits, bets and digging: promises 7 to 9. */
public final class PitEdgesTest {
    private static final Check CHECK = new Check("PitEdgesTest");
    private static final Class<IndexOutOfBoundsException> INDEX = IndexOutOfBoundsException.class;
    private static final Class<IllegalArgumentException> ARGUMENT = IllegalArgumentException.class;
    private static final Class<IllegalStateException> STATE = IllegalStateException.class;
    private static final int[] NO_SPOTS = {-1, 20, States.LOW, States.HIGH};
    private static final Setup EMPTY = States.empty();
    private static final Setup BUSY = States.busy();
    private static final Setup FULL = States.full();

    public static void main(String[] args) {
        pitOutOfTheField();
        atMostTenPits();
        noTwoAtASpot();
        pitExceptionsInOrder();
        pitAtFirst();
        depthAsItIsWhenBegun();
        foundAtItsDepth();
        dryAtTwenty();
        betOfNoDowserOrPit();
        betCoins();
        betNinetyNine();
        betOnADugPit();
        betOnlyOnce();
        betWithFewerCoins();
        betExceptionsInOrder();
        betTakesCoins();
        digNoPit();
        digBy();
        digWhatIsOver();
        digExceptionsInOrder();
        digTillOverAtTheMost();
        paidAsItIsOver();
        sharesAreCut();
        rightTakeAll();
        nobodyRight();
        nobodyBet();
        allDowsersOnAllPits();
        CHECK.end();
    }

    private static void due(String what, long want, long got) {
        CHECK.due(what, want, got);
    }

    private static void dueCoins(String what, DowserPegs field, int ofTheField, int... ofDowsers) {
        int all = 0;
        for (int dowser = 0; dowser < ofDowsers.length; dowser++) {
            due(what + ": coins of " + dowser, ofDowsers[dowser], field.told(dowser, 2));
            all += ofDowsers[dowser];
        }
        due(what + ": coins of all dowsers", all, field.count(8));
        due(what + ": coins of the field", ofTheField, field.count(7));
    }

    private static void pitOutOfTheField() {
        CHECK.sentence("Promise 7: Throws IndexOutOfBoundsException if x or y is not 0 to 19");
        for (int bad : NO_SPOTS) {
            CHECK.refused("pit in column " + bad, BUSY, INDEX, on -> on.pit(bad, 0));
            CHECK.refused("pit in column " + bad, EMPTY, INDEX, on -> on.pit(bad, 19));
            CHECK.refused("pit in row " + bad, BUSY, INDEX, on -> on.pit(0, bad));
            CHECK.refused("pit in row " + bad, EMPTY, INDEX, on -> on.pit(19, bad));
        }
        int[][] corners = {{0, 0}, {19, 0}, {0, 19}, {19, 19}};
        DowserPegs field = new DowserPegs();
        for (int i = 0; i < corners.length; i++) {
            due("pit in a corner", i, field.pit(corners[i][0], corners[i][1]));
            due("its column", corners[i][0], field.about(i, 0));
            due("its row", corners[i][1], field.about(i, 1));
        }
    }

    private static void atMostTenPits() {
        CHECK.sentence("Promise 7: Throws IllegalStateException if there are 10");
        Setup state = Setup.fresh("pits alone");
        for (int i = 0; i < 10; i++) {
            int at = i;
            due("pit's number", i, state.make().pit(at, 3));
            state = state.then(field -> field.pit(at, 3));
            due("pits", i + 1, state.make().count(3));
        }
        CHECK.refused("an eleventh pit", state, STATE, on -> on.pit(10, 3));
        CHECK.refused("an eleventh pit", FULL, STATE, on -> on.pit(19, 19));
        Setup over = state.then(field -> field.dig(0, 20)).then(field -> field.dig(9, 20));
        CHECK.refused("an eleventh pit, though two are over", over, STATE, on -> on.pit(10, 3));
    }

    private static void noTwoAtASpot() {
        CHECK.sentence("Promise 7: Throws IllegalStateException if .. one is there");
        CHECK.refused("pit where one is over", BUSY, STATE, on -> on.pit(8, 5));
        CHECK.refused("pit where one is dug", BUSY, STATE, on -> on.pit(5, 8));
        CHECK.refused("pit where one is not dug", BUSY, STATE, on -> on.pit(19, 0));
        CHECK.refused("pit where one is, of ten", FULL, STATE, on -> on.pit(9, 9));
        DowserPegs first = new DowserPegs();
        first.pit(0, 0);
        CHECK.isThrown("pit where the pit 0 is", STATE, () -> first.pit(0, 0));
        due("column and row changed", 4, BUSY.make().pit(0, 19));
        due("beside it", 4, BUSY.make().pit(7, 5));
        due("at a peg", 4, BUSY.make().pit(17, 0));
    }

    private static void pitExceptionsInOrder() {
        CHECK.sentence("Terms: If several exceptions apply, the one that is named first is thrown. (pit)");
        CHECK.refused("pit in column -1, an eleventh", FULL, INDEX, on -> on.pit(-1, 0));
        CHECK.refused("pit in row 20, an eleventh", FULL, INDEX, on -> on.pit(0, 20));
        DowserPegs field = new DowserPegs();
        for (int i = 0; i < 10; i++) {
            int at = i;
            due("a refused pit takes no number", i, field.pit(at, 0));
            CHECK.isThrown("state", STATE, () -> field.pit(at, 0));
            CHECK.isThrown("index", INDEX, () -> field.pit(at, 20));
        }
    }

    private static void pitAtFirst() {
        CHECK.sentence("Terms: and has been dug so deep, 0 to 20 (0, at first)");
        Setup state = States.dry(2).then(field -> field.vein(6, 6, 6, 6, 1, 1))
                .then(field -> field.pit(6, 6)).then(field -> field.pit(7, 7));
        DowserPegs field = state.make();
        int[][] wants = {{6, 6, 0, 0, 0, 0, 0}, {7, 7, 0, 0, 0, 0, 0}};
        for (int pit = 0; pit < 2; pit++) {
            for (int what = 0; what < 7; what++) {
                due("about(" + pit + ", " + what + ")", wants[pit][what], field.about(pit, what));
            }
            due("would", 0, field.would(pit, 0, true));
        }
    }

    private static void depthAsItIsWhenBegun() {
        CHECK.sentence("Terms: each has a spot, with a depth as it is when the pit is begun"
                + " (or none, without water; veins that come later change nothing of that)");
        DowserPegs field = new DowserPegs();
        field.pit(4, 4);
        field.vein(0, 4, 19, 4, 1, 1);
        field.vein(9, 9, 9, 9, 8, 1);
        field.pit(9, 9);
        field.vein(9, 9, 9, 9, 7, 1);
        field.vein(11, 11, 11, 11, 7, 1);
        field.pit(11, 11);
        field.vein(11, 11, 11, 11, 8, 1);
        field.pit(5, 4);
        due("the spot of the first one is wet now", 1, field.spot(4, 4, 1));
        due("begun without water: dug through", 20, field.dig(0, 20));
        due("begun without water: not found", 0, field.about(0, 3));
        due("the spot of the second one is less deep now", 7, field.spot(9, 9, 1));
        due("begun at 8: as deep as the new vein", 7, field.dig(1, 7));
        due("begun at 8: not found", 0, field.about(1, 3));
        due("begun at 8: not over", 0, field.about(1, 4));
        due("begun at 8: one more", 8, field.dig(1, 20));
        due("begun at 8: found", 1, field.about(1, 3));
        due("begun at 7, and a deeper one later", 7, field.dig(2, 20));
        due("begun with water 1 deep", 1, field.dig(3, 20));
    }

    private static Setup wetPit(int depth) {
        return Setup.fresh("a pit on water " + depth + " deep").then(field -> field.vein(3, 3, 3, 3, depth, 1))
                .then(field -> field.pit(3, 3));
    }

    private static void duePit(String what, DowserPegs field, int deep, int found, int over) {
        due(what + ": how deep", deep, field.about(0, 2));
        due(what + ": found", found, field.about(0, 3));
        due(what + ": over", over, field.about(0, 4));
    }

    private static void foundAtItsDepth() {
        CHECK.sentence("Terms: A pit has found water, if there is such a depth, and it is as deep, or deeper");
        for (int depth = 1; depth <= 20; depth++) {
            DowserPegs field = wetPit(depth).make();
            for (int deep = 1; deep <= depth; deep++) {
                duePit("water at " + depth, field, deep - 1, 0, 0);
                due("dig by 1", deep, field.dig(0, 1));
            }
            duePit("water at " + depth, field, depth, 1, 1);
        }
    }

    private static void dryAtTwenty() {
        CHECK.sentence("Terms: it is over, if it has, or is 20 deep");
        DowserPegs field = new DowserPegs();
        field.pit(3, 3);
        for (int deep = 1; deep <= 20; deep++) {
            duePit("dry", field, deep - 1, 0, 0);
            due("dig by 1", deep, field.dig(0, 1));
        }
        duePit("dry", field, 20, 0, 1);
        DowserPegs wet = wetPit(20).make();
        due("by 19", 19, wet.dig(0, 19));
        duePit("water at 20", wet, 19, 0, 0);
        due("by 1", 20, wet.dig(0, 1));
        duePit("water at 20", wet, 20, 1, 1);
    }

    private static void betOfNoDowserOrPit() {
        CHECK.sentence("Promise 8: Throws IndexOutOfBoundsException if there is no such dowser or pit");
        for (int bad : new int[] {-1, 2, States.LOW, States.HIGH}) {
            CHECK.refused("bet of dowser " + bad, BUSY, INDEX, on -> on.bet(bad, 3, 1, true));
        }
        for (int bad : new int[] {-1, 4, States.LOW, States.HIGH}) {
            CHECK.refused("bet on pit " + bad, BUSY, INDEX, on -> on.bet(0, bad, 1, true));
        }
        CHECK.refused("bet of dowser 5 of 5", FULL, INDEX, on -> on.bet(5, 9, 1, true));
        CHECK.refused("bet on pit 10 of 10", FULL, INDEX, on -> on.bet(4, 10, 1, true));
        CHECK.refused("bet on pit 0 of none", States.dry(5), INDEX, on -> on.bet(0, 0, 1, true));
        Setup pit = wetPit(3);
        CHECK.refused("bet of dowser 0 of none", pit, INDEX, on -> on.bet(0, 0, 1, true));
        due("bet of dowser 4 of 5 on pit 9 of 10", 49, FULL.make().bet(4, 9, 1, true));
        due("bet of dowser 0 on pit 3", 46, BUSY.then(field -> field.dowser(1, 1)).make().bet(2, 3, 4, true));
    }

    private static void betCoins() {
        CHECK.sentence("Promise 8: Throws IllegalArgumentException if coins is not 1 to 99");
        for (int bad : new int[] {0, 100, -1, States.LOW, States.HIGH}) {
            CHECK.refused("bet of " + bad, BUSY, ARGUMENT, on -> on.bet(0, 3, bad, true));
            CHECK.refused("bet of " + bad, BUSY, ARGUMENT, on -> on.bet(1, 3, bad, false));
        }
        CHECK.refused("99 are coins, but too many here", BUSY, STATE, on -> on.bet(0, 3, 99, true));
        due("a bet of 1", 49, FULL.make().bet(4, 9, 1, true));
    }

    /** A dowser who has won 50 coins, and so has 100. */
    private static Setup rich() {
        return States.dry(3).then(field -> field.pit(0, 0)).then(field -> field.pit(1, 0))
                .then(field -> field.bet(0, 0, 50, false)).then(field -> field.bet(1, 0, 50, true))
                .then(field -> field.dig(0, 20));
    }

    private static void betNinetyNine() {
        CHECK.sentence("Promise 8: Throws IllegalArgumentException if coins is not 1 to 99 (of a dowser who has more)");
        due("coins", 100, rich().make().told(0, 2));
        due("a bet of 99", 1, rich().make().bet(0, 1, 99, true));
        due("a bet of 98", 2, rich().make().bet(0, 1, 98, true));
        CHECK.refused("a bet of 100", rich(), ARGUMENT, on -> on.bet(0, 1, 100, true));
        DowserPegs field = rich().make();
        field.bet(0, 1, 99, true);
        due("99 in a bet that is not paid", 99, field.told(0, 5));
        due("99 on that it finds", 99, field.about(1, 5));
        due("would get them back", 99, field.would(1, 0, true));
    }

    private static void betOnADugPit() {
        CHECK.sentence("Promise 8: Throws IllegalStateException if it has been dug");
        Setup state = States.dry(2).then(field -> field.vein(6, 6, 6, 6, 1, 1)).then(field -> field.pit(6, 6))
                .then(field -> field.pit(7, 7)).then(field -> field.pit(8, 8));
        Setup dug = state.then(field -> field.dig(0, 1)).then(field -> field.dig(1, 1));
        CHECK.refused("bet on a pit 1 deep that has found water", dug, STATE, on -> on.bet(0, 0, 1, true));
        CHECK.refused("bet on a pit 1 deep", dug, STATE, on -> on.bet(0, 1, 1, false));
        Setup through = dug.then(field -> field.dig(1, 18));
        CHECK.refused("bet on a pit 19 deep", through, STATE, on -> on.bet(1, 1, 1, false));
        Setup over = through.then(field -> field.dig(1, 1));
        CHECK.refused("bet on a dry pit that is over", over, STATE, on -> on.bet(1, 1, 1, false));
        due("bet on the pit that has not been dug", 49, over.make().bet(0, 2, 1, true));
        due("bet on all before", 49, state.make().bet(1, 0, 1, true));
    }

    private static void betOnlyOnce() {
        CHECK.sentence("Promise 8: Throws IllegalStateException if .. the dowser has bet on it");
        Setup state = States.dry(2).then(field -> field.pit(6, 6)).then(field -> field.pit(7, 7))
                .then(field -> field.bet(0, 0, 1, false)).then(field -> field.bet(1, 1, 1, true));
        CHECK.refused("a second bet, the same", state, STATE, on -> on.bet(0, 0, 1, false));
        CHECK.refused("a second bet, otherwise", state, STATE, on -> on.bet(0, 0, 1, true));
        CHECK.refused("a second bet, of more", state, STATE, on -> on.bet(0, 0, 49, false));
        CHECK.refused("a second bet, of the second one", state, STATE, on -> on.bet(1, 1, 2, true));
        CHECK.refused("a second bet, of the second one, otherwise", state, STATE, on -> on.bet(1, 1, 2, false));
        due("the first one on the other pit", 0, state.make().bet(0, 1, 49, false));
        due("the second one on the other pit", 0, state.make().bet(1, 0, 49, true));
        Setup all = state.then(field -> field.bet(0, 1, 49, true));
        CHECK.refused("a second bet without coins", all, STATE, on -> on.bet(0, 1, 1, true));
    }

    private static void betWithFewerCoins() {
        CHECK.sentence("Promise 8: Throws IllegalStateException if .. or has fewer coins");
        Setup state = States.dry(2).then(field -> field.pit(6, 6)).then(field -> field.pit(7, 7));
        CHECK.refused("51 of 50", state, STATE, on -> on.bet(0, 0, 51, true));
        due("50 of 50", 0, state.make().bet(0, 0, 50, true));
        due("49 of 50", 1, state.make().bet(0, 0, 49, true));
        Setup poor = state.then(field -> field.bet(0, 0, 50, true));
        CHECK.refused("1 of 0", poor, STATE, on -> on.bet(0, 1, 1, true));
        due("the other one has his", 0, poor.make().bet(1, 1, 50, true));
        Setup some = state.then(field -> field.bet(0, 0, 20, true));
        CHECK.refused("31 of 30", some, STATE, on -> on.bet(0, 1, 31, true));
        due("30 of 30", 0, some.make().bet(0, 1, 30, false));
    }

    private static void betExceptionsInOrder() {
        CHECK.sentence("Terms: If several exceptions apply, the one that is named first is thrown. (bet)");
        CHECK.refused("no dowser, no coins", BUSY, INDEX, on -> on.bet(2, 3, 0, true));
        CHECK.refused("no pit, no coins", BUSY, INDEX, on -> on.bet(0, 4, 100, true));
        CHECK.refused("no dowser, a pit that is dug", BUSY, INDEX, on -> on.bet(-1, 1, 1, true));
        CHECK.refused("no dowser, too many coins", BUSY, INDEX, on -> on.bet(2, 3, 99, true));
        CHECK.refused("no pit, too many coins", BUSY, INDEX, on -> on.bet(0, -1, 99, true));
        CHECK.refused("no coins, a pit that is dug", BUSY, ARGUMENT, on -> on.bet(0, 1, 0, true));
        CHECK.refused("no coins, a pit that is over", BUSY, ARGUMENT, on -> on.bet(0, 0, -1, true));
        CHECK.refused("no coins, a second bet", BUSY, ARGUMENT, on -> on.bet(0, 2, 0, true));
        CHECK.refused("100 coins, a second bet", BUSY, ARGUMENT, on -> on.bet(0, 2, 100, true));
        CHECK.refused("100 coins, which are too many", BUSY, ARGUMENT, on -> on.bet(0, 3, 100, true));
        CHECK.refused("all at once", FULL, INDEX, on -> on.bet(5, 0, 100, true));
    }

    private static void betTakesCoins() {
        CHECK.sentence("Promise 8: Returns the coins that the dowser has then.");
        DowserPegs field = States.dry(2).make();
        for (int pit = 0; pit < 10; pit++) {
            field.pit(pit, pit);
            due("coins after bet " + pit, 50 - 5 * (pit + 1), field.bet(1, pit, 5, pit % 2 == 0));
            due("coins in bets", 5 * (pit + 1), field.told(1, 5));
        }
        dueCoins("after all bets", field, 0, 50, 0);
    }

    private static void digNoPit() {
        CHECK.sentence("Promise 9: Throws IndexOutOfBoundsException if there is no such pit");
        for (int bad : new int[] {-1, 4, States.LOW, States.HIGH}) {
            CHECK.refused("dig pit " + bad, BUSY, INDEX, on -> on.dig(bad, 1));
        }
        CHECK.refused("dig pit 10 of 10", FULL, INDEX, on -> on.dig(10, 1));
        CHECK.refused("dig pit 0 of none", EMPTY, INDEX, on -> on.dig(0, 1));
        due("dig pit 9 of 10", 1, FULL.make().dig(9, 1));
    }

    private static void digBy() {
        CHECK.sentence("Promise 9: Throws IllegalArgumentException if by is not 1 to 20");
        for (int bad : new int[] {0, 21, -1, States.LOW, States.HIGH}) {
            CHECK.refused("dig by " + bad, BUSY, ARGUMENT, on -> on.dig(1, bad));
            CHECK.refused("dig by " + bad, BUSY, ARGUMENT, on -> on.dig(2, bad));
        }
        for (int by = 1; by <= 20; by++) {
            DowserPegs field = new DowserPegs();
            field.pit(0, 0);
            due("dig by " + by, by, field.dig(0, by));
        }
    }

    private static void digWhatIsOver() {
        CHECK.sentence("Promise 9: Throws IllegalStateException if it is over");
        CHECK.refused("dig a pit that has found water", BUSY, STATE, on -> on.dig(0, 1));
        CHECK.refused("dig a pit that has found water, by 20", BUSY, STATE, on -> on.dig(0, 20));
        Setup dry = BUSY.then(field -> field.dig(1, 16));
        due("19 deep: not over", 20, dry.make().dig(1, 1));
        Setup over = dry.then(field -> field.dig(1, 1));
        CHECK.refused("dig a dry pit 20 deep", over, STATE, on -> on.dig(1, 1));
        Setup deep = wetPit(20).then(field -> field.dig(0, 20));
        CHECK.refused("dig a pit that has found water 20 deep", deep, STATE, on -> on.dig(0, 1));
        Setup shallow = wetPit(1).then(field -> field.dig(0, 1));
        CHECK.refused("dig a pit that has found water 1 deep", shallow, STATE, on -> on.dig(0, 1));
        CHECK.refused("paid only once", rich(), STATE, on -> on.dig(0, 1));
    }

    private static void digExceptionsInOrder() {
        CHECK.sentence("Terms: If several exceptions apply, the one that is named first is thrown. (dig)");
        CHECK.refused("no pit, by 0", BUSY, INDEX, on -> on.dig(4, 0));
        CHECK.refused("no pit, by 21", BUSY, INDEX, on -> on.dig(-1, 21));
        CHECK.refused("by 0, over", BUSY, ARGUMENT, on -> on.dig(0, 0));
        CHECK.refused("by 21, over", BUSY, ARGUMENT, on -> on.dig(0, 21));
        CHECK.refused("by -1, over", FULL, ARGUMENT, on -> on.dig(0, -1));
    }

    private static void digTillOverAtTheMost() {
        CHECK.sentence("Promise 9: Digs a pit deeper, till it is over at the most");
        int[][] digs = {{1, 20, 1}, {1, 2, 1}, {1, 1, 1}, {7, 6, 6}, {7, 7, 7}, {7, 8, 7}, {7, 20, 7}, {19, 18, 18},
                {19, 19, 19}, {19, 20, 19}, {20, 19, 19}, {20, 20, 20}};
        for (int[] dig : digs) {
            due("water at " + dig[0] + ", by " + dig[1], dig[2], wetPit(dig[0]).make().dig(0, dig[1]));
            due("and told", dig[2], wetPit(dig[0]).then(field -> field.dig(0, dig[1])).make().about(0, 2));
        }
        DowserPegs dry = new DowserPegs();
        dry.pit(0, 0);
        due("dry, by 20", 20, States.dry(0).then(field -> field.pit(0, 0)).make().dig(0, 20));
        due("dry, by 19", 19, dry.dig(0, 19));
        due("dry, by 20 more", 20, dry.dig(0, 20));
        DowserPegs wet = wetPit(12).make();
        due("by 5", 5, wet.dig(0, 5));
        due("by 6 more", 11, wet.dig(0, 6));
        due("by 2 more, of which 1 is dug", 12, wet.dig(0, 2));
    }

    private static void paidAsItIsOver() {
        CHECK.sentence("Promise 9: bets are paid, if it is over then.");
        DowserPegs dry = States.dry(2).make();
        dry.pit(2, 2);
        dry.bet(0, 0, 10, false);
        dry.bet(1, 0, 20, true);
        dry.dig(0, 19);
        dueCoins("19 deep", dry, 0, 40, 30);
        due("in bets at 19", 10, dry.told(0, 5));
        due("right at 19", 0, dry.told(0, 6));
        due("wrong at 19", 0, dry.told(1, 7));
        dry.dig(0, 1);
        dueCoins("20 deep", dry, 0, 70, 30);
        due("in bets at 20", 0, dry.told(0, 5));
        due("in bets of the other one", 0, dry.told(1, 5));
        due("right at 20", 1, dry.told(0, 6));
        due("wrong at 20", 1, dry.told(1, 7));
        DowserPegs wet = States.dry(2).make();
        wet.vein(2, 2, 2, 2, 5, 1);
        wet.pit(2, 2);
        wet.bet(0, 0, 10, false);
        wet.bet(1, 0, 20, true);
        wet.dig(0, 4);
        dueCoins("4 deep", wet, 0, 40, 30);
        wet.dig(0, 1);
        dueCoins("5 deep", wet, 0, 40, 60);
    }

    /** Bets that a pit finds water at 1, then what is paid: stakes below 0 are bets that it does not. */
    private static void duePaid(int ofTheField, int[] stakes, int... wants) {
        DowserPegs field = States.dry(stakes.length).make();
        field.vein(2, 2, 2, 2, 1, 1);
        field.pit(2, 2);
        for (int dowser = 0; dowser < stakes.length; dowser++) {
            if (stakes[dowser] != 0) {
                field.bet(dowser, 0, Math.abs(stakes[dowser]), stakes[dowser] > 0);
            }
        }
        int[] coins = new int[wants.length];
        for (int dowser = 0; dowser < wants.length; dowser++) {
            due("would get", wants[dowser], field.would(0, dowser, true));
            coins[dowser] = 50 - Math.abs(stakes[dowser]) + wants[dowser];
        }
        field.dig(0, 1);
        dueCoins("bets " + java.util.Arrays.toString(stakes), field, ofTheField, coins);
    }

    private static void sharesAreCut() {
        CHECK.sentence("Terms: each gets all * own bet / all bets of those who were right; what is left .. is the field's");
        duePaid(1, new int[] {1, 1, -1}, 1, 1, 0);
        duePaid(0, new int[] {1, 1, -2}, 2, 2, 0);
        duePaid(1, new int[] {1, 1, 1, -4}, 2, 2, 2, 0);
        duePaid(2, new int[] {1, 1, 1, -2}, 1, 1, 1, 0);
        duePaid(1, new int[] {10, 7, -9, -5}, 18, 12, 0, 0);
        duePaid(1, new int[] {50, 50, 50, 49, -48}, 62, 62, 62, 60, 0);
        duePaid(0, new int[] {50, -50, -50, -50, -50}, 250, 0, 0, 0, 0);
        duePaid(1, new int[] {1, 50, -50}, 1, 99, 0);
    }

    private static void rightTakeAll() {
        CHECK.sentence("Terms: all coins that were bet on it are shared by those who were right");
        duePaid(0, new int[] {7}, 7);
        duePaid(0, new int[] {50}, 50);
        duePaid(0, new int[] {1, -1}, 2, 0);
        duePaid(0, new int[] {0, 3, 0, -50}, 0, 53, 0, 0);
        duePaid(0, new int[] {50, 50, 50, 50, 50}, 50, 50, 50, 50, 50);
        duePaid(0, new int[] {1, 2, 3, 4, 5}, 1, 2, 3, 4, 5);
    }

    private static void nobodyRight() {
        CHECK.sentence("Terms: and all if nobody was right, is the field's.");
        duePaid(1, new int[] {-1}, 0);
        duePaid(250, new int[] {-50, -50, -50, -50, -50}, 0, 0, 0, 0, 0);
        DowserPegs dry = States.dry(2).make();
        dry.pit(2, 2);
        dry.pit(3, 3);
        dry.bet(0, 0, 10, true);
        dry.bet(1, 0, 20, true);
        dry.bet(1, 1, 4, true);
        dry.dig(0, 20);
        dueCoins("the first pit", dry, 30, 40, 26);
        dry.dig(1, 20);
        dueCoins("the second pit is added", dry, 34, 40, 26);
        due("wrong bets", 2, dry.told(1, 7));
    }

    private static void nobodyBet() {
        CHECK.sentence("Terms: As a pit is over, bets are paid (where there are none)");
        duePaid(0, new int[] {0, 0}, 0, 0);
        DowserPegs nobody = wetPit(2).make();
        due("without dowsers", 2, nobody.dig(0, 20));
        due("coins of the field", 0, nobody.count(7));
        DowserPegs dry = States.dry(1).make();
        dry.pit(0, 0);
        dry.dig(0, 20);
        dueCoins("dry", dry, 0, 50);
        due("no right bet", 0, dry.told(0, 6));
        due("no wrong bet", 0, dry.told(0, 7));
    }

    private static void allDowsersOnAllPits() {
        CHECK.sentence("Terms: each dowser may bet some coins once (as many dowsers and pits as there may be)");
        DowserPegs field = States.dry(5).make();
        field.vein(0, 0, 4, 4, 20, 1);
        for (int pit = 0; pit < 10; pit++) {
            field.pit(pit, pit);
            for (int dowser = 0; dowser < 5; dowser++) {
                due("coins after it", 50 - 5 * pit - 5, field.bet(dowser, pit, 5, dowser == 4));
            }
        }
        dueCoins("all is bet", field, 0, 0, 0, 0, 0, 0);
        for (int pit = 0; pit < 10; pit++) {
            due("dig", 20, field.dig(pit, 20));
        }
        dueCoins("all is paid", field, 5, 30, 30, 30, 30, 125);
        due("right ones of the first", 5, field.told(0, 6));
        due("wrong ones of the first", 5, field.told(0, 7));
        due("right ones of the last", 5, field.told(4, 6));
        due("wrong ones of the last", 5, field.told(4, 7));
    }
}

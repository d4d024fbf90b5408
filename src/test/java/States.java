/** States of a field on which the tests of the document's edges begin. */
final class States {
    /** The wrong numbers furthest from the right ones; the nearest ones are named where they are used. */
    static final int LOW = Integer.MIN_VALUE;
    static final int HIGH = Integer.MAX_VALUE;

    private States() {
    }

    static Setup empty() {
        return Setup.fresh("a new object");
    }

    /** Dowsers on dry ground, whose rods bend everywhere by the lean alone, as much as the mark is at first. */
    static Setup dry(int dowsers) {
        Setup state = Setup.fresh("a dry field with " + dowsers + " dowsers");
        for (int i = 0; i < dowsers; i++) {
            state = state.then(field -> field.dowser(0, 3));
        }
        return state;
    }

    /**
     * Something of everything: 2 veins, 2 dowsers, pegs, 4 pits (0 over, 1 dug, 2 and 3 not dug). Pegs and pits
     * stand also where a column beside the field would lie if a row's end ran on into the next row.
     */
    static Setup busy() {
        return Setup.fresh("a busy field")
                .then(field -> field.vein(2, 5, 12, 5, 4, 6))
                .then(field -> field.vein(8, 0, 8, 10, 2, 3))
                .then(field -> field.dowser(4, -1))
                .then(field -> field.dowser(0, 3))
                .then(field -> field.setMark(2))
                .then(field -> field.walk(0, 4, 3, 10, 7))
                .then(field -> field.walk(1, 17, 0, 19, 0))
                .then(field -> field.walk(1, 0, 1, 0, 2))
                .then(field -> field.walk(1, 19, 18, 19, 18))
                .then(field -> field.pit(8, 5))
                .then(field -> field.pit(5, 8))
                .then(field -> field.pit(0, 1))
                .then(field -> field.pit(19, 0))
                .then(field -> field.bet(0, 0, 7, true))
                .then(field -> field.bet(1, 0, 8, false))
                .then(field -> field.bet(1, 1, 9, false))
                .then(field -> field.bet(0, 2, 3, true))
                .then(field -> field.dig(0, 20))
                .then(field -> field.dig(1, 3));
    }

    /** As many veins, dowsers, pegs and pits as there may be; pit 0 is over, pit 1 dug, the others are not dug. */
    static Setup full() {
        Setup state = Setup.fresh("a full field");
        for (int i = 0; i < 6; i++) {
            int row = i;
            state = state.then(field -> field.vein(0, row, 19, row, row + 1, 9));
        }
        for (int i = 0; i < 5; i++) {
            int lean = i - 1;
            state = state.then(field -> field.dowser(9, lean));
        }
        state = state.then(field -> field.walk(4, 0, 0, 19, 0)).then(field -> field.walk(3, 19, 1, 0, 1))
                .then(field -> field.walk(0, 0, 2, 12, 2)).then(field -> field.walk(2, 19, 6, 13, 6));
        for (int i = 0; i < 10; i++) {
            int at = i;
            state = state.then(field -> field.pit(at, at));
            for (int j = 0; j < 4; j++) {
                int dowser = j;
                state = state.then(field -> field.bet(dowser, at, 1 + (dowser + at) % 4, (dowser + at) % 3 > 0));
            }
        }
        return state.then(field -> field.dig(0, 1)).then(field -> field.dig(1, 1));
    }
}

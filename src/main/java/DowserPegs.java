import java.util.Arrays;

/** A dowsers' survey: veins under a field, dowsers with their pegs, and pits on which they bet. */
public final class DowserPegs {
    private static final int SIDE = 20;
    private static final int SPOTS = SIDE * SIDE;
    private static final int MOST_VEINS = 6;
    private static final int MOST_DOWSERS = 5;
    private static final int MOST_PEGS = 60;
    private static final int MOST_PITS = 10;
    private static final int DEEPEST = 20;
    private static final int NOBODY = -1;

    private static final int COUNTS = 9;
    private static final int TOLDS = 8;
    private static final int ABOUTS = 7;
    private static final int SPOT_WHATS = 6;
    private static final int DIGEST_SPOT_WHATS = 4;
    private static final int DIGEST_START = 1801;

    private final Veins veins;
    private final Dowsers dowsers;
    private final Pegs pegs;
    private final Pits pits;
    private int mark;
    private int fieldCoins;

    public DowserPegs() {
        veins = new Veins();
        dowsers = new Dowsers();
        pegs = new Pegs();
        pits = new Pits();
        mark = 3;
        fieldCoins = 0;
    }

    // ---- the field

    public int vein(int x, int y, int tx, int ty, int depth, int flow)
            throws IndexOutOfBoundsException, IllegalArgumentException, IllegalStateException {
        if (!inField(x, y) || !inField(tx, ty)) {
            throw new IndexOutOfBoundsException("an end is not in the field");
        }
        if (!straight(x, y, tx, ty)) {
            throw new IllegalArgumentException("the ends are not in one row, column or diagonal");
        }
        if (!within(depth, 1, DEEPEST) || !within(flow, 1, 9)) {
            throw new IllegalArgumentException("no such depth or flow");
        }
        if (veins.size >= MOST_VEINS) {
            throw new IllegalStateException("there are 6 veins");
        }
        int number = veins.open(depth, flow);
        veins.lay(number, x, y, tx, ty);
        return number;
    }

    public int dowser(int feeling, int lean) throws IllegalArgumentException, IllegalStateException {
        if (!within(feeling, 0, 9) || !within(lean, -3, 3)) {
            throw new IllegalArgumentException("no such feeling or lean");
        }
        if (dowsers.size >= MOST_DOWSERS) {
            throw new IllegalStateException("there are 5 dowsers");
        }
        return dowsers.add(feeling, lean);
    }

    public int setMark(int mark) throws IllegalArgumentException {
        if (!within(mark, 1, 30)) {
            throw new IllegalArgumentException("no such mark");
        }
        int before = this.mark;
        this.mark = mark;
        return before;
    }

    // ---- walks and pegs

    public int walk(int dowser, int x, int y, int tx, int ty) throws IndexOutOfBoundsException {
        if (!isDowser(dowser) || !inField(x, y) || !inField(tx, ty)) {
            throw new IndexOutOfBoundsException("no such dowser or spot");
        }
        int marked = 0;
        int along = Integer.signum(tx - x);
        int columns = Math.abs(tx - x);
        for (int step = 0; step <= columns; step++) {
            marked += markPeg(dowser, spotAt(x + step * along, y));
        }
        int down = Integer.signum(ty - y);
        int rows = Math.abs(ty - y);
        // The corner has been walked as the last spot of the row, so the column starts behind it.
        for (int step = 1; step <= rows; step++) {
            marked += markPeg(dowser, spotAt(tx, y + step * down));
        }
        return marked;
    }

    public int pull(int x, int y) throws IndexOutOfBoundsException, IllegalStateException {
        if (!inField(x, y)) {
            throw new IndexOutOfBoundsException("no such spot");
        }
        int spot = spotAt(x, y);
        if (!pegs.standsAt(spot)) {
            throw new IllegalStateException("no peg is there");
        }
        return pegs.remove(spot);
    }

    // ---- pits and bets

    public int pit(int x, int y) throws IndexOutOfBoundsException, IllegalStateException {
        if (!inField(x, y)) {
            throw new IndexOutOfBoundsException("no such spot");
        }
        int spot = spotAt(x, y);
        if (pits.size >= MOST_PITS || pits.at[spot] >= 0) {
            throw new IllegalStateException("there are 10 pits, or one is there");
        }
        return pits.add(spot, veins.shallowest[spot]);
    }

    public int bet(int dowser, int pit, int coins, boolean finds)
            throws IndexOutOfBoundsException, IllegalArgumentException, IllegalStateException {
        if (!isDowser(dowser) || !isPit(pit)) {
            throw new IndexOutOfBoundsException("no such dowser or pit");
        }
        if (!within(coins, 1, 99)) {
            throw new IllegalArgumentException("no such number of coins");
        }
        if (pits.dug[pit] > 0 || pits.hasBet(pit, dowser) || dowsers.coins[dowser] < coins) {
            throw new IllegalStateException("dug already, bet already, or too few coins");
        }
        pits.takeBet(pit, dowser, coins, finds);
        dowsers.coins[dowser] -= coins;
        return dowsers.coins[dowser];
    }

    public int dig(int pit, int by)
            throws IndexOutOfBoundsException, IllegalArgumentException, IllegalStateException {
        if (!isPit(pit)) {
            throw new IndexOutOfBoundsException("no such pit");
        }
        if (!within(by, 1, DEEPEST)) {
            throw new IllegalArgumentException("no such depth to dig by");
        }
        if (pits.isOver(pit)) {
            throw new IllegalStateException("the pit is over");
        }
        pits.deepen(pit, by);
        if (pits.isOver(pit)) {
            payBets(pit);
        }
        return pits.dug[pit];
    }

    // ---- what there is

    public int spot(int x, int y, int what) throws IndexOutOfBoundsException {
        if (!inField(x, y) || !within(what, 0, SPOT_WHATS - 1)) {
            throw new IndexOutOfBoundsException("no such spot or question");
        }
        return tellSpot(spotAt(x, y), what);
    }

    public int rod(int dowser, int x, int y) throws IndexOutOfBoundsException {
        if (!isDowser(dowser) || !inField(x, y)) {
            throw new IndexOutOfBoundsException("no such dowser or spot");
        }
        return bend(dowser, spotAt(x, y));
    }

    public int told(int dowser, int what) throws IndexOutOfBoundsException {
        if (!isDowser(dowser) || !within(what, 0, TOLDS - 1)) {
            throw new IndexOutOfBoundsException("no such dowser or question");
        }
        return tellDowser(dowser, what);
    }

    public int about(int pit, int what) throws IndexOutOfBoundsException {
        if (!isPit(pit) || !within(what, 0, ABOUTS - 1)) {
            throw new IndexOutOfBoundsException("no such pit or question");
        }
        return pits.tell(pit, what);
    }

    public int count(int what) throws IndexOutOfBoundsException {
        if (!within(what, 0, COUNTS - 1)) {
            throw new IndexOutOfBoundsException("no such question");
        }
        return tellCount(what);
    }

    public int line(int what) throws IndexOutOfBoundsException {
        if (!within(what, 0, 2)) {
            throw new IndexOutOfBoundsException("no such question");
        }
        return pegs.tellFullestLine(what);
    }

    // ---- what would be

    public int would(int pit, int dowser, boolean finds) throws IndexOutOfBoundsException {
        if (!isPit(pit) || !isDowser(dowser)) {
            throw new IndexOutOfBoundsException("no such pit or dowser");
        }
        if (pits.isOver(pit)) {
            return 0;
        }
        return pits.share(pit, dowser, finds);
    }

    public int best(int dowser, int what) throws IndexOutOfBoundsException {
        if (!isDowser(dowser) || !within(what, 0, 2)) {
            throw new IndexOutOfBoundsException("no such dowser or question");
        }
        int spot = spotOfGreatestBend(dowser);
        switch (what) {
            case 0:
                return columnOf(spot);
            case 1:
                return rowOf(spot);
            default:
                return bend(dowser, spot);
        }
    }

    public int advise() {
        int followed = NOBODY;
        int itsPegs = 0;
        int itsTrue = 0;
        for (int dowser = 0; dowser < dowsers.size; dowser++) {
            int standing = pegs.standingOf(dowser);
            int trueOnes = trueOf(dowser);
            if (standing > 0 && (followed == NOBODY || truer(trueOnes, standing, itsTrue, itsPegs))) {
                followed = dowser;
                itsPegs = standing;
                itsTrue = trueOnes;
            }
        }
        return followed;
    }

    public double mean() {
        int water = 0;
        for (int spot = 0; spot < SPOTS; spot++) {
            if (pegs.standsAt(spot)) {
                water += veins.water[spot];
            }
        }
        return pegs.size > 0 ? (double) water / (double) pegs.size : 0.0;
    }

    public long digest() {
        long d = DIGEST_START;
        for (int what = 0; what < COUNTS; what++) {
            d = d * 31 + tellCount(what);
        }
        for (int dowser = 0; dowser < dowsers.size; dowser++) {
            for (int what = 0; what < TOLDS; what++) {
                d = d * 31 + tellDowser(dowser, what);
            }
        }
        for (int pit = 0; pit < pits.size; pit++) {
            for (int what = 0; what < ABOUTS; what++) {
                d = d * 31 + pits.tell(pit, what);
            }
        }
        for (int spot = 0; spot < SPOTS; spot++) {
            for (int what = 0; what < DIGEST_SPOT_WHATS; what++) {
                d = d * 31 + tellSpot(spot, what);
            }
        }
        return d;
    }

    // ---- numbers and spots

    private static boolean within(int number, int least, int most) {
        return number >= least && number <= most;
    }

    private static boolean inField(int x, int y) {
        return within(x, 0, SIDE - 1) && within(y, 0, SIDE - 1);
    }

    private static boolean straight(int x, int y, int tx, int ty) {
        return x == tx || y == ty || Math.abs(tx - x) == Math.abs(ty - y);
    }

    /** Spots are numbered row by row, so that going up the numbers is the order that the document wants. */
    private static int spotAt(int x, int y) {
        return y * SIDE + x;
    }

    private static int columnOf(int spot) {
        return spot % SIDE;
    }

    private static int rowOf(int spot) {
        return spot / SIDE;
    }

    private static int distance(int one, int other) {
        return Math.abs(columnOf(one) - columnOf(other)) + Math.abs(rowOf(one) - rowOf(other));
    }

    /** Among nobody nothing is shared, so a divisor of 0 gives 0. */
    private static int quotient(int dividend, int divisor) {
        return divisor > 0 ? dividend / divisor : 0;
    }

    private boolean isDowser(int dowser) {
        return within(dowser, 0, dowsers.size - 1);
    }

    private boolean isPit(int pit) {
        return within(pit, 0, pits.size - 1);
    }

    // ---- rods and pegs

    private int bend(int dowser, int spot) {
        return Math.max(0, veins.bend(spot, dowsers.feeling[dowser]) + dowsers.lean[dowser]);
    }

    private int spotOfGreatestBend(int dowser) {
        int found = 0;
        int most = bend(dowser, 0);
        for (int spot = 1; spot < SPOTS; spot++) {
            int here = bend(dowser, spot);
            if (here > most) {
                found = spot;
                most = here;
            }
        }
        return found;
    }

    /** Answers how many pegs this made: 1 or 0. */
    private int markPeg(int dowser, int spot) {
        if (pegs.size >= MOST_PEGS || pegs.standsAt(spot) || bend(dowser, spot) < mark) {
            return 0;
        }
        pegs.add(spot, dowser);
        return 1;
    }

    /** A peg's truth is asked of the veins anew each time, as a later vein may make it true. */
    private boolean isTruePeg(int spot) {
        return pegs.standsAt(spot) && veins.water[spot] > 0;
    }

    private int trueOf(int dowser) {
        int trueOnes = 0;
        for (int spot = 0; spot < SPOTS; spot++) {
            if (pegs.owner[spot] == dowser && isTruePeg(spot)) {
                trueOnes++;
            }
        }
        return trueOnes;
    }

    private int truePegs() {
        int trueOnes = 0;
        for (int spot = 0; spot < SPOTS; spot++) {
            if (isTruePeg(spot)) {
                trueOnes++;
            }
        }
        return trueOnes;
    }

    /** Compares the parts crosswise, as a cut quotient would not be exact. */
    private static boolean truer(int trueOnes, int standing, int otherTrue, int otherStanding) {
        int part = trueOnes * otherStanding;
        int otherPart = otherTrue * standing;
        return part > otherPart || (part == otherPart && standing > otherStanding);
    }

    // ---- bets

    private void payBets(int pit) {
        boolean finds = pits.hasFound(pit);
        int left = pits.allStaked(pit);
        for (int dowser = 0; dowser < dowsers.size; dowser++) {
            int share = pits.share(pit, dowser, finds);
            dowsers.coins[dowser] += share;
            left -= share;
        }
        fieldCoins += left;
    }

    // ---- what the questions tell

    private int tellSpot(int spot, int what) {
        switch (what) {
            case 0:
                return veins.water[spot];
            case 1:
                return veins.shallowest[spot];
            case 2:
                return pegs.owner[spot];
            case 3:
                return pits.at[spot];
            case 4:
                return pegs.besides(spot);
            default:
                return pegs.nearest(spot);
        }
    }

    private int tellDowser(int dowser, int what) {
        switch (what) {
            case 0:
                return dowsers.feeling[dowser];
            case 1:
                return dowsers.lean[dowser];
            case 2:
                return dowsers.coins[dowser];
            case 3:
                return pegs.standingOf(dowser);
            case 4:
                return trueOf(dowser);
            case 5:
                return pits.unpaidOf(dowser);
            case 6:
                return pits.paidBetsOf(dowser, true);
            default:
                return pits.paidBetsOf(dowser, false);
        }
    }

    private int tellCount(int what) {
        switch (what) {
            case 0:
                return veins.size;
            case 1:
                return dowsers.size;
            case 2:
                return pegs.size;
            case 3:
                return pits.size;
            case 4:
                return mark;
            case 5:
                return veins.wetSpots();
            case 6:
                return truePegs();
            case 7:
                return fieldCoins;
            default:
                return dowsers.allCoins();
        }
    }

    /** The veins, and what they bring to each spot. */
    private static final class Veins {
        private static final int BESIDE = 1;
        private static final int OVER = 2;

        int size;
        final int[] depth;
        final int[] flow;
        /** For each vein, for each spot: 0, BESIDE or OVER. */
        final int[] reach;
        final int[] water;
        /** The least depth of the veins over a spot, 0 without one. */
        final int[] shallowest;

        Veins() {
            size = 0;
            depth = new int[MOST_VEINS];
            flow = new int[MOST_VEINS];
            reach = new int[MOST_VEINS * SPOTS];
            water = new int[SPOTS];
            shallowest = new int[SPOTS];
        }

        int open(int itsDepth, int itsFlow) {
            int vein = size;
            depth[vein] = itsDepth;
            flow[vein] = itsFlow;
            size++;
            return vein;
        }

        void lay(int vein, int x, int y, int tx, int ty) {
            int along = Integer.signum(tx - x);
            int down = Integer.signum(ty - y);
            int steps = Math.max(Math.abs(tx - x), Math.abs(ty - y));
            for (int step = 0; step <= steps; step++) {
                cover(vein, x + step * along, y + step * down);
            }
        }

        private void cover(int vein, int x, int y) {
            raise(vein, x, y, OVER);
            raise(vein, x - 1, y, BESIDE);
            raise(vein, x + 1, y, BESIDE);
            raise(vein, x, y - 1, BESIDE);
            raise(vein, x, y + 1, BESIDE);
            int spot = spotAt(x, y);
            water[spot] += flow[vein];
            boolean shallower = shallowest[spot] == 0 || depth[vein] < shallowest[spot];
            shallowest[spot] = shallower ? depth[vein] : shallowest[spot];
        }

        /** A spot that the vein goes over stays so, though it is beside another spot of the vein as well. */
        private void raise(int vein, int x, int y, int level) {
            if (inField(x, y)) {
                int place = vein * SPOTS + spotAt(x, y);
                reach[place] = Math.max(reach[place], level);
            }
        }

        int bend(int spot, int feeling) {
            int all = 0;
            for (int vein = 0; vein < size; vein++) {
                int level = reach[vein * SPOTS + spot];
                int whole = quotient(flow[vein] * feeling, depth[vein]);
                if (level == OVER) {
                    all += whole;
                } else if (level == BESIDE) {
                    all += whole / 2;
                }
            }
            return all;
        }

        int wetSpots() {
            int wet = 0;
            for (int spot = 0; spot < SPOTS; spot++) {
                if (water[spot] > 0) {
                    wet++;
                }
            }
            return wet;
        }
    }

    /** The dowsers and their purses. */
    private static final class Dowsers {
        private static final int FIRST_COINS = 50;

        int size;
        final int[] feeling;
        final int[] lean;
        final int[] coins;

        Dowsers() {
            size = 0;
            feeling = new int[MOST_DOWSERS];
            lean = new int[MOST_DOWSERS];
            coins = new int[MOST_DOWSERS];
        }

        int add(int itsFeeling, int itsLean) {
            int dowser = size;
            feeling[dowser] = itsFeeling;
            lean[dowser] = itsLean;
            coins[dowser] = FIRST_COINS;
            size++;
            return dowser;
        }

        int allCoins() {
            int all = 0;
            for (int dowser = 0; dowser < size; dowser++) {
                all += coins[dowser];
            }
            return all;
        }
    }

    /** The pegs that stand, by spot. */
    private static final class Pegs {
        /** The lines of all kinds stand in one row: rows, columns, rising and falling diagonals. */
        private static final int DIAGONALS = 2 * SIDE - 1;
        private static final int FIRST_COLUMN = SIDE;
        private static final int FIRST_RISING = FIRST_COLUMN + SIDE;
        private static final int FIRST_FALLING = FIRST_RISING + DIAGONALS;
        private static final int LINES = FIRST_FALLING + DIAGONALS;
        /** The line of the rising diagonal on which column and row are the same. */
        private static final int MIDDLE_RISING = FIRST_RISING + SIDE - 1;

        int size;
        /** For each spot the dowser whose peg is there, or NOBODY. */
        final int[] owner;
        /** Room for counting pegs by line, kept so that no call makes an array. */
        private final int[] onLine;

        Pegs() {
            size = 0;
            owner = new int[SPOTS];
            Arrays.fill(owner, NOBODY);
            onLine = new int[LINES];
        }

        boolean standsAt(int spot) {
            return owner[spot] != NOBODY;
        }

        void add(int spot, int dowser) {
            owner[spot] = dowser;
            size++;
        }

        int remove(int spot) {
            int dowser = owner[spot];
            owner[spot] = NOBODY;
            size--;
            return dowser;
        }

        int standingOf(int dowser) {
            int standing = 0;
            for (int spot = 0; spot < SPOTS; spot++) {
                if (owner[spot] == dowser) {
                    standing++;
                }
            }
            return standing;
        }

        int besides(int spot) {
            int x = columnOf(spot);
            int y = rowOf(spot);
            return pegsAt(x - 1, y) + pegsAt(x + 1, y) + pegsAt(x, y - 1) + pegsAt(x, y + 1);
        }

        private int pegsAt(int x, int y) {
            return inField(x, y) && standsAt(spotAt(x, y)) ? 1 : 0;
        }

        int nearest(int spot) {
            int least = -1;
            for (int other = 0; other < SPOTS; other++) {
                if (standsAt(other) && (least < 0 || distance(spot, other) < least)) {
                    least = distance(spot, other);
                }
            }
            return least;
        }

        int tellFullestLine(int what) {
            countByLine();
            int line = fullestLine();
            if (what == 0) {
                return onLine[line];
            }
            if (size == 0) {
                return -1;
            }
            return what == 1 ? kindOf(line) : numberOf(line);
        }

        private void countByLine() {
            Arrays.fill(onLine, 0);
            for (int spot = 0; spot < SPOTS; spot++) {
                if (standsAt(spot)) {
                    int x = columnOf(spot);
                    int y = rowOf(spot);
                    onLine[y]++;
                    onLine[FIRST_COLUMN + x]++;
                    onLine[MIDDLE_RISING + x - y]++;
                    onLine[FIRST_FALLING + x + y]++;
                }
            }
        }

        private int fullestLine() {
            int fullest = 0;
            for (int line = 1; line < LINES; line++) {
                if (onLine[line] > onLine[fullest]) {
                    fullest = line;
                }
            }
            return fullest;
        }

        private static int kindOf(int line) {
            if (line < FIRST_COLUMN) {
                return 0;
            }
            if (line < FIRST_RISING) {
                return 1;
            }
            return line < FIRST_FALLING ? 2 : 3;
        }

        private static int numberOf(int line) {
            switch (kindOf(line)) {
                case 0:
                    return line;
                case 1:
                    return line - FIRST_COLUMN;
                case 2:
                    return line - MIDDLE_RISING;
                default:
                    return line - FIRST_FALLING;
            }
        }
    }

    /** The pits and the bets on them. */
    private static final class Pits {
        int size;
        /** For each spot the pit there, or -1. */
        final int[] at;
        private final int[] place;
        /** The depth of the water as the pit was begun, 0 without water. */
        private final int[] waterDepth;
        final int[] dug;
        /** For each pit, for each dowser: the coins bet, 0 without a bet. */
        private final int[] stake;
        private final boolean[] betFinds;

        Pits() {
            size = 0;
            at = new int[SPOTS];
            Arrays.fill(at, -1);
            place = new int[MOST_PITS];
            waterDepth = new int[MOST_PITS];
            dug = new int[MOST_PITS];
            stake = new int[MOST_PITS * MOST_DOWSERS];
            betFinds = new boolean[MOST_PITS * MOST_DOWSERS];
        }

        int add(int spot, int depthOfWater) {
            int pit = size;
            place[pit] = spot;
            waterDepth[pit] = depthOfWater;
            at[spot] = pit;
            size++;
            return pit;
        }

        boolean hasFound(int pit) {
            return waterDepth[pit] > 0 && dug[pit] >= waterDepth[pit];
        }

        boolean isOver(int pit) {
            return hasFound(pit) || dug[pit] >= DEEPEST;
        }

        void deepen(int pit, int by) {
            int end = waterDepth[pit] > 0 ? waterDepth[pit] : DEEPEST;
            dug[pit] = Math.min(end, dug[pit] + by);
        }

        private static int slip(int pit, int dowser) {
            return pit * MOST_DOWSERS + dowser;
        }

        boolean hasBet(int pit, int dowser) {
            return stake[slip(pit, dowser)] > 0;
        }

        void takeBet(int pit, int dowser, int coins, boolean finds) {
            stake[slip(pit, dowser)] = coins;
            betFinds[slip(pit, dowser)] = finds;
        }

        /** The coins that this dowser bet on this end of the pit. */
        private int stakeOn(int pit, int dowser, boolean finds) {
            int slip = slip(pit, dowser);
            return betFinds[slip] == finds ? stake[slip] : 0;
        }

        private int stakedOn(int pit, boolean finds) {
            int staked = 0;
            for (int dowser = 0; dowser < MOST_DOWSERS; dowser++) {
                staked += stakeOn(pit, dowser, finds);
            }
            return staked;
        }

        int allStaked(int pit) {
            return stakedOn(pit, true) + stakedOn(pit, false);
        }

        /** What a dowser gets of the coins bet on a pit that ends so. */
        int share(int pit, int dowser, boolean finds) {
            return quotient(allStaked(pit) * stakeOn(pit, dowser, finds), stakedOn(pit, finds));
        }

        int unpaidOf(int dowser) {
            int unpaid = 0;
            for (int pit = 0; pit < size; pit++) {
                if (!isOver(pit)) {
                    unpaid += stake[slip(pit, dowser)];
                }
            }
            return unpaid;
        }

        int paidBetsOf(int dowser, boolean right) {
            int bets = 0;
            for (int pit = 0; pit < size; pit++) {
                boolean wasRight = betFinds[slip(pit, dowser)] == hasFound(pit);
                if (isOver(pit) && hasBet(pit, dowser) && wasRight == right) {
                    bets++;
                }
            }
            return bets;
        }

        int tell(int pit, int what) {
            switch (what) {
                case 0:
                    return columnOf(place[pit]);
                case 1:
                    return rowOf(place[pit]);
                case 2:
                    return dug[pit];
                case 3:
                    return hasFound(pit) ? 1 : 0;
                case 4:
                    return isOver(pit) ? 1 : 0;
                case 5:
                    return stakedOn(pit, true);
                default:
                    return stakedOn(pit, false);
            }
        }
    }
}

/**
 * Runs of 512 calls on DowserPegs and on Model, chosen by a counted-up number: both must answer the same.
 * Some runs keep to a few spots, where veins lie over each other; in some all coins are bet, and won.
 */
public final class ModelTest {
    private static final Check CHECK = new Check("ModelTest");
    private static final int RUNS = 500;
    private static final int CALLS = 512;
    private static final String[] OPS = {"vein", "dowser", "setMark", "walk", "pull", "pit", "bet", "dig", "spot", "rod",
        "told", "about", "count", "line", "would", "best", "advise", "mean", "digest"};
    /** How often each of OPS is called, in the long run. */
    private static final int[] WEIGHTS = {3, 3, 4, 10, 5, 4, 14, 8, 12, 8, 8, 8, 8, 6, 8, 4, 5, 4, 2};

    /** So many columns, and rows, a narrow run has. */
    private static final int NARROW = 4;

    private long seed;
    private final boolean narrow;
    private final boolean bold;
    private final int corner;

    private ModelTest(int run) {
        seed = run;
        narrow = run % 3 == 1;
        bold = run % 4 == 2;
        corner = run % (20 - NARROW + 1);
    }

    public static void main(String[] args) {
        for (int run = 0; run < RUNS; run++) {
            new ModelTest(run).compare(run);
        }
        CHECK.end();
    }

    private int below(int bound) {
        seed = seed * 6364136223846793005L + 1442695040888963407L;
        return (int) ((seed >>> 33) % bound);
    }

    /** A number from least to most; now and then one a little or very much beside them. */
    private int near(int least, int most) {
        int luck = below(120);
        if (luck == 0) {
            return least - 1;
        }
        if (luck == 1) {
            return most + 1;
        }
        if (luck == 2) {
            return below(2) == 0 ? Integer.MIN_VALUE : Integer.MAX_VALUE;
        }
        return least + below(most - least + 1);
    }

    private int place() {
        int at = near(0, 19);
        return narrow && at >= 0 && at <= 19 ? corner + at % NARROW : at;
    }

    private void compare(int run) {
        DowserPegs real = new DowserPegs();
        Model model = new Model();
        for (int call = 0; call < CALLS; call++) {
            String op = pickOp();
            int[] args = pickArgs(op, model);
            boolean finds = below(2) == 0;
            Object want = answerOrThrown(() -> askModel(model, op, args, finds));
            Object got = answerOrThrown(() -> askReal(real, op, args, finds));
            if (!want.equals(got)) {
                CHECK.fail("run " + run + ", call " + call + ": " + op + java.util.Arrays.toString(args) + " " + finds
                        + " answered " + got + ", due is " + want);
                return;
            }
        }
    }

    private String pickOp() {
        int all = 0;
        for (int weight : WEIGHTS) {
            all += weight;
        }
        int at = below(all);
        int op = 0;
        while (at >= WEIGHTS[op]) {
            at -= WEIGHTS[op];
            op++;
        }
        return OPS[op];
    }

    private int[] pickArgs(String op, Model model) {
        int d = near(0, Math.max(0, model.count(1) - 1));
        int p = near(0, Math.max(0, model.count(3) - 1));
        int x = place();
        int y = place();
        return switch (op) {
            case "vein" -> veinArgs(x, y);
            case "dowser" -> new int[] {near(0, 9), near(-3, 3)};
            case "setMark" -> new int[] {below(3) == 0 ? near(1, 30) : near(1, 8)};
            case "walk" -> walkArgs(d, x, y);
            case "pull" -> pegSpot(model, x, y);
            case "pit" -> new int[] {x, below(3) == 0 ? x : y};
            case "bet" -> new int[] {d, p, stake(model, d)};
            case "dig" -> new int[] {p, below(2) == 0 ? near(1, 20) : near(1, 4)};
            case "spot" -> new int[] {x, y, near(0, 5)};
            case "rod" -> new int[] {d, x, y};
            case "told" -> new int[] {d, near(0, 7)};
            case "about" -> new int[] {p, near(0, 6)};
            case "count" -> new int[] {near(0, 8)};
            case "line" -> new int[] {near(0, 2)};
            case "would" -> new int[] {p, d};
            case "best" -> new int[] {d, near(0, 2)};
            default -> new int[0];
        };
    }

    private int stake(Model model, int d) {
        if (bold && d >= 0 && d < model.count(1) && model.told(d, 2) > 0) {
            return near(1, Math.min(99, model.told(d, 2)));
        }
        return below(4) == 0 ? near(1, 99) : near(1, 15);
    }

    private int[] veinArgs(int x, int y) {
        int long0 = below(20) - 10;
        int[][] ends = {{x + long0, y}, {x, y + long0}, {x + long0, y + long0}, {x + long0, y - long0},
            {place(), place()}};
        int[] end = ends[below(5)];
        return new int[] {x, y, end[0], end[1], below(2) == 0 ? near(1, 20) : near(1, 4), near(1, 9)};
    }

    /** Mostly short walks, so that the 60 pegs are not all used up at once. */
    private int[] walkArgs(int d, int x, int y) {
        if (below(4) == 0) {
            return new int[] {d, x, y, place(), place()};
        }
        return new int[] {d, x, y, x + below(5) - 2, y + below(5) - 2};
    }

    private int[] pegSpot(Model model, int x, int y) {
        for (int tries = 0; tries < 30 && below(10) != 0; tries++) {
            int px = below(20);
            int py = below(20);
            if (model.spot(px, py, 2) >= 0) {
                return new int[] {px, py};
            }
        }
        return new int[] {x, y};
    }

    private interface Asked {
        Object answer();
    }

    private static Object answerOrThrown(Asked asked) {
        try {
            return asked.answer();
        } catch (RuntimeException thrown) {
            return thrown.getClass().getName();
        }
    }

    private static Object askModel(Model on, String op, int[] a, boolean finds) {
        return switch (op) {
            case "vein" -> on.vein(a[0], a[1], a[2], a[3], a[4], a[5]);
            case "dowser" -> on.dowser(a[0], a[1]);
            case "setMark" -> on.setMark(a[0]);
            case "walk" -> on.walk(a[0], a[1], a[2], a[3], a[4]);
            case "pull" -> on.pull(a[0], a[1]);
            case "pit" -> on.pit(a[0], a[1]);
            case "bet" -> on.bet(a[0], a[1], a[2], finds);
            case "dig" -> on.dig(a[0], a[1]);
            case "spot" -> on.spot(a[0], a[1], a[2]);
            case "rod" -> on.rod(a[0], a[1], a[2]);
            case "told" -> on.told(a[0], a[1]);
            case "about" -> on.about(a[0], a[1]);
            case "count" -> on.count(a[0]);
            case "line" -> on.line(a[0]);
            case "would" -> on.would(a[0], a[1], finds);
            case "best" -> on.best(a[0], a[1]);
            case "advise" -> on.advise();
            case "mean" -> (Object) on.mean();
            default -> (Object) on.digest();
        };
    }

    private static Object askReal(DowserPegs on, String op, int[] a, boolean finds) {
        return switch (op) {
            case "vein" -> on.vein(a[0], a[1], a[2], a[3], a[4], a[5]);
            case "dowser" -> on.dowser(a[0], a[1]);
            case "setMark" -> on.setMark(a[0]);
            case "walk" -> on.walk(a[0], a[1], a[2], a[3], a[4]);
            case "pull" -> on.pull(a[0], a[1]);
            case "pit" -> on.pit(a[0], a[1]);
            case "bet" -> on.bet(a[0], a[1], a[2], finds);
            case "dig" -> on.dig(a[0], a[1]);
            case "spot" -> on.spot(a[0], a[1], a[2]);
            case "rod" -> on.rod(a[0], a[1], a[2]);
            case "told" -> on.told(a[0], a[1]);
            case "about" -> on.about(a[0], a[1]);
            case "count" -> on.count(a[0]);
            case "line" -> on.line(a[0]);
            case "would" -> on.would(a[0], a[1], finds);
            case "best" -> on.best(a[0], a[1]);
            case "advise" -> on.advise();
            case "mean" -> (Object) on.mean();
            default -> (Object) on.digest();
        };
    }
}

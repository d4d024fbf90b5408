import java.util.ArrayList;
import java.util.HashMap;
import java.util.List;
import java.util.Map;

/** The document once more, in the slowest and plainest way, held in lists of what was said: for ModelTest. */
final class Model {
    private record Spot(int x, int y) {
        int far(Spot other) {
            return Math.abs(x - other.x) + Math.abs(y - other.y);
        }
    }

    private record Vein(List<Spot> spots, int depth, int flow) { }

    private record Dowser(int feeling, int lean) { }

    private record Peg(Spot spot, int dowser) { }

    private record Bet(int dowser, int pit, int coins, boolean finds) { }

    private static final class Pit {
        Spot spot;
        Integer depth;
        int dug;

        boolean found() {
            return depth != null && dug >= depth;
        }

        boolean over() {
            return found() || dug == 20;
        }
    }

    private final List<Vein> veins = new ArrayList<>();
    private final List<Dowser> dowsers = new ArrayList<>();
    private final List<Integer> coins = new ArrayList<>();
    private final List<Peg> pegs = new ArrayList<>();
    private final List<Pit> pits = new ArrayList<>();
    private final List<Bet> bets = new ArrayList<>();
    private int mark = 3;
    private int fieldCoins = 0;

    private static void index(boolean fine) {
        if (!fine) {
            throw new IndexOutOfBoundsException();
        }
    }

    private static void argument(boolean fine) {
        if (!fine) {
            throw new IllegalArgumentException();
        }
    }

    private static void state(boolean fine) {
        if (!fine) {
            throw new IllegalStateException();
        }
    }

    private static boolean side(int... numbers) {
        for (int number : numbers) {
            if (number < 0 || number > 19) {
                return false;
            }
        }
        return true;
    }

    private static boolean number(int number, List<?> of) {
        return number >= 0 && number < of.size();
    }

    int vein(int x, int y, int tx, int ty, int depth, int flow) {
        index(side(x, y, tx, ty));
        argument(x == tx || y == ty || x - y == tx - ty || x + y == tx + ty);
        argument(depth >= 1 && depth <= 20 && flow >= 1 && flow <= 9);
        state(veins.size() < 6);
        List<Spot> spots = new ArrayList<>();
        int atX = x;
        int atY = y;
        spots.add(new Spot(atX, atY));
        while (atX != tx || atY != ty) {
            atX += atX < tx ? 1 : atX > tx ? -1 : 0;
            atY += atY < ty ? 1 : atY > ty ? -1 : 0;
            spots.add(new Spot(atX, atY));
        }
        veins.add(new Vein(spots, depth, flow));
        return veins.size() - 1;
    }

    int dowser(int feeling, int lean) {
        argument(feeling >= 0 && feeling <= 9 && lean >= -3 && lean <= 3);
        state(dowsers.size() < 5);
        dowsers.add(new Dowser(feeling, lean));
        coins.add(50);
        return dowsers.size() - 1;
    }

    int setMark(int to) {
        argument(to >= 1 && to <= 30);
        int before = mark;
        mark = to;
        return before;
    }

    private int bend(int dowser, Spot spot) {
        int all = dowsers.get(dowser).lean;
        for (Vein vein : veins) {
            int whole = vein.flow * dowsers.get(dowser).feeling / vein.depth;
            int nearest = 99;
            for (Spot of : vein.spots) {
                nearest = Math.min(nearest, of.far(spot));
            }
            all += nearest == 0 ? whole : nearest == 1 ? whole / 2 : 0;
        }
        return Math.max(all, 0);
    }

    private Peg pegAt(Spot spot) {
        for (Peg peg : pegs) {
            if (peg.spot.equals(spot)) {
                return peg;
            }
        }
        return null;
    }

    private int tryPeg(int dowser, Spot spot) {
        if (bend(dowser, spot) >= mark && pegAt(spot) == null && pegs.size() < 60) {
            pegs.add(new Peg(spot, dowser));
            return 1;
        }
        return 0;
    }

    int walk(int dowser, int x, int y, int tx, int ty) {
        index(number(dowser, dowsers) && side(x, y, tx, ty));
        int marked = tryPeg(dowser, new Spot(x, y));
        while (x != tx) {
            x += x < tx ? 1 : -1;
            marked += tryPeg(dowser, new Spot(x, y));
        }
        while (y != ty) {
            y += y < ty ? 1 : -1;
            marked += tryPeg(dowser, new Spot(x, y));
        }
        return marked;
    }

    int pull(int x, int y) {
        index(side(x, y));
        Peg peg = pegAt(new Spot(x, y));
        state(peg != null);
        pegs.remove(peg);
        return peg.dowser;
    }

    private int pitAt(Spot spot) {
        for (int pit = 0; pit < pits.size(); pit++) {
            if (pits.get(pit).spot.equals(spot)) {
                return pit;
            }
        }
        return -1;
    }

    private int water(Spot spot) {
        return veins.stream().filter(vein -> vein.spots.contains(spot)).mapToInt(Vein::flow).sum();
    }

    private Integer depth(Spot spot) {
        Integer least = null;
        for (Vein vein : veins) {
            if (vein.spots.contains(spot)) {
                least = least == null ? vein.depth : Math.min(least, vein.depth);
            }
        }
        return least;
    }

    int pit(int x, int y) {
        index(side(x, y));
        state(pits.size() < 10 && pitAt(new Spot(x, y)) < 0);
        Pit pit = new Pit();
        pit.spot = new Spot(x, y);
        pit.depth = depth(pit.spot);
        pits.add(pit);
        return pits.size() - 1;
    }

    int bet(int dowser, int pit, int stake, boolean finds) {
        index(number(dowser, dowsers) && number(pit, pits));
        argument(stake >= 1 && stake <= 99);
        state(pits.get(pit).dug == 0);
        state(bets.stream().noneMatch(bet -> bet.dowser == dowser && bet.pit == pit));
        state(coins.get(dowser) >= stake);
        bets.add(new Bet(dowser, pit, stake, finds));
        coins.set(dowser, coins.get(dowser) - stake);
        return coins.get(dowser);
    }

    /** What each dowser gets if the pit ends so. */
    private Map<Integer, Integer> shares(int pit, boolean finds) {
        int all = bets.stream().filter(bet -> bet.pit == pit).mapToInt(Bet::coins).sum();
        int right = bets.stream().filter(bet -> bet.pit == pit && bet.finds == finds).mapToInt(Bet::coins).sum();
        Map<Integer, Integer> shares = new HashMap<>();
        for (Bet bet : bets) {
            if (bet.pit == pit && bet.finds == finds) {
                shares.put(bet.dowser, all * bet.coins / right);
            }
        }
        return shares;
    }

    int dig(int number, int by) {
        index(number(number, pits));
        argument(by >= 1 && by <= 20);
        Pit pit = pits.get(number);
        state(!pit.over());
        for (int i = 0; i < by && !pit.over(); i++) {
            pit.dug++;
        }
        if (pit.over()) {
            fieldCoins += bets.stream().filter(bet -> bet.pit == number).mapToInt(Bet::coins).sum();
            shares(number, pit.found()).forEach((dowser, share) -> {
                coins.set(dowser, coins.get(dowser) + share);
                fieldCoins -= share;
            });
        }
        return pit.dug;
    }

    int spot(int x, int y, int what) {
        index(side(x, y) && what >= 0 && what <= 5);
        Spot spot = new Spot(x, y);
        Peg peg = pegAt(spot);
        return switch (what) {
            case 0 -> water(spot);
            case 1 -> depth(spot) == null ? 0 : depth(spot);
            case 2 -> peg == null ? -1 : peg.dowser;
            case 3 -> pitAt(spot);
            case 4 -> (int) pegs.stream().filter(other -> other.spot.far(spot) == 1).count();
            default -> pegs.stream().mapToInt(other -> other.spot.far(spot)).min().orElse(-1);
        };
    }

    int rod(int dowser, int x, int y) {
        index(number(dowser, dowsers) && side(x, y));
        return bend(dowser, new Spot(x, y));
    }

    private boolean isTrue(Peg peg) {
        return water(peg.spot) > 0;
    }

    private int paid(int dowser, boolean right) {
        return (int) bets.stream().filter(bet -> bet.dowser == dowser && pits.get(bet.pit).over()
                && (bet.finds == pits.get(bet.pit).found()) == right).count();
    }

    int told(int dowser, int what) {
        index(number(dowser, dowsers) && what >= 0 && what <= 7);
        return switch (what) {
            case 0 -> dowsers.get(dowser).feeling;
            case 1 -> dowsers.get(dowser).lean;
            case 2 -> coins.get(dowser);
            case 3 -> (int) pegs.stream().filter(peg -> peg.dowser == dowser).count();
            case 4 -> (int) pegs.stream().filter(peg -> peg.dowser == dowser && isTrue(peg)).count();
            case 5 -> bets.stream().filter(bet -> bet.dowser == dowser && !pits.get(bet.pit).over())
                    .mapToInt(Bet::coins).sum();
            case 6 -> paid(dowser, true);
            default -> paid(dowser, false);
        };
    }

    int about(int pit, int what) {
        index(number(pit, pits) && what >= 0 && what <= 6);
        Pit asked = pits.get(pit);
        return switch (what) {
            case 0 -> asked.spot.x;
            case 1 -> asked.spot.y;
            case 2 -> asked.dug;
            case 3 -> asked.found() ? 1 : 0;
            case 4 -> asked.over() ? 1 : 0;
            default -> bets.stream().filter(bet -> bet.pit == pit && bet.finds == (what == 5))
                    .mapToInt(Bet::coins).sum();
        };
    }

    int count(int what) {
        index(what >= 0 && what <= 8);
        return switch (what) {
            case 0 -> veins.size();
            case 1 -> dowsers.size();
            case 2 -> pegs.size();
            case 3 -> pits.size();
            case 4 -> mark;
            case 5 -> (int) veins.stream().flatMap(vein -> vein.spots.stream()).distinct().count();
            case 6 -> (int) pegs.stream().filter(this::isTrue).count();
            case 7 -> fieldCoins;
            default -> coins.stream().mapToInt(Integer::intValue).sum();
        };
    }

    private static boolean isOn(Spot spot, int kind, int number) {
        return switch (kind) {
            case 0 -> spot.y == number;
            case 1 -> spot.x == number;
            case 2 -> spot.x - spot.y == number;
            default -> spot.x + spot.y == number;
        };
    }

    int line(int what) {
        index(what >= 0 && what <= 2);
        int[] most = {0, -1, -1};
        for (int kind = 0; kind <= 3; kind++) {
            for (int number = -50; number <= 50; number++) {
                int standing = 0;
                for (Peg peg : pegs) {
                    standing += isOn(peg.spot, kind, number) ? 1 : 0;
                }
                if (standing > most[0]) {
                    most = new int[] {standing, kind, number};
                }
            }
        }
        return most[what];
    }

    int would(int pit, int dowser, boolean finds) {
        index(number(pit, pits) && number(dowser, dowsers));
        return pits.get(pit).over() ? 0 : shares(pit, finds).getOrDefault(dowser, 0);
    }

    int best(int dowser, int what) {
        index(number(dowser, dowsers) && what >= 0 && what <= 2);
        int[] best = {0, 0, -1};
        for (int y = 0; y < 20; y++) {
            for (int x = 0; x < 20; x++) {
                int bend = bend(dowser, new Spot(x, y));
                if (bend > best[2]) {
                    best = new int[] {x, y, bend};
                }
            }
        }
        return best[what];
    }

    int advise() {
        int advised = -1;
        for (int dowser = 0; dowser < dowsers.size(); dowser++) {
            int standing = told(dowser, 3);
            if (standing == 0) {
                continue;
            }
            if (advised < 0) {
                advised = dowser;
                continue;
            }
            int more = told(dowser, 4) * told(advised, 3) - told(advised, 4) * standing;
            if (more > 0 || more == 0 && standing > told(advised, 3)) {
                advised = dowser;
            }
        }
        return advised;
    }

    double mean() {
        return pegs.stream().mapToInt(peg -> water(peg.spot)).average().orElse(0);
    }

    long digest() {
        List<Integer> numbers = new ArrayList<>();
        for (int what = 0; what <= 8; what++) {
            numbers.add(count(what));
        }
        for (int dowser = 0; dowser < dowsers.size(); dowser++) {
            for (int what = 0; what <= 7; what++) {
                numbers.add(told(dowser, what));
            }
        }
        for (int pit = 0; pit < pits.size(); pit++) {
            for (int what = 0; what <= 6; what++) {
                numbers.add(about(pit, what));
            }
        }
        for (int y = 0; y < 20; y++) {
            for (int x = 0; x < 20; x++) {
                for (int what = 0; what <= 3; what++) {
                    numbers.add(spot(x, y, what));
                }
            }
        }
        long d = 1801;
        for (int number : numbers) {
            d = d * 31 + number;
        }
        return d;
    }
}

import java.util.ArrayList;
import java.util.Arrays;
import java.util.Comparator;
import java.util.List;
import java.util.NoSuchElementException;
import java.util.regex.Matcher;
import java.util.regex.Pattern;

/** The document once more, by trying everything out: slow, and written apart from the class that is tested. */
final class Reference {
    private static final Pattern MODEL = Pattern.compile(modelPattern());

    private final List<boolean[][][]> roughs = new ArrayList<>();
    private final List<List<int[]>> models = new ArrayList<>();
    private final List<int[]> steps = new ArrayList<>();
    private final List<Gem> stones = new ArrayList<>();
    private final List<int[]> lots = new ArrayList<>();
    private final int[] limits = {6, 6, 6, 6};
    private String tape = "";
    private int brought = 0;

    private static final class Gem {
        int grains;
        int rough;
        int model;
        boolean polished;
        int mate = -1;
        int lot = -1;
        int buyer = -1;
        final List<int[]> facets = new ArrayList<>();
    }

    /** worth, model, size, way, a, b, c, weight. */
    private static final Comparator<int[]> AHEAD = (one, other) -> {
        int[] signs = {-1, 1, -1, 1};
        for (int k = 0; k < 4; k++) {
            if (one[k] != other[k]) {
                return signs[k] * Integer.compare(one[k], other[k]);
            }
        }
        for (int k = 6; k >= 4; k--) {
            if (one[k] != other[k]) {
                return Integer.compare(one[k], other[k]);
            }
        }
        return 0;
    };

    private static String modelPattern() {
        StringBuilder layer = new StringBuilder("(?:");
        for (int w = 1; w <= 6; w++) {
            for (int d = 1; d <= 6; d++) {
                layer.append(w + d > 2 ? "|" : "");
                layer.append(" *[" + w + "] *[x] *[" + d + "] *[@] *[0-" + (6 - w) + "] *[,] *[0-" + (6 - d) + "]");
            }
        }
        layer.append(")");
        return layer + "(?: *[;]" + layer + "){0,5} *";
    }

    int rough() {
        if (roughs.size() == 10) {
            return -1;
        }
        roughs.add(new boolean[6][6][6]);
        return roughs.size() - 1;
    }

    private boolean[][][] roughAt(int rough) {
        if (rough < 0 || rough >= roughs.size()) {
            throw new IndexOutOfBoundsException();
        }
        return roughs.get(rough);
    }

    int scan(int rough, int z, long sound, long flawed) {
        boolean[][][] cells = roughAt(rough);
        if (z < 0 || z > 5) {
            throw new IndexOutOfBoundsException();
        }
        if (sound < 0 || flawed < 0 || sound >= 1L << 36 || flawed >= 1L << 36) {
            throw new IllegalArgumentException();
        }
        int many = 0;
        for (int x = 0; x < 6; x++) {
            for (int y = 0; y < 6; y++) {
                long bit = 1L << x + 6 * y;
                cells[x][y][z] = (sound & bit) != 0 && (flawed & bit) == 0;
                many += cells[x][y][z] ? 1 : 0;
            }
        }
        return many;
    }

    int stuff(int rough) {
        int many = 0;
        for (boolean[][] plane : roughAt(rough)) {
            for (boolean[] row : plane) {
                for (boolean cell : row) {
                    many += cell ? 1 : 0;
                }
            }
        }
        return many;
    }

    int feed(int a, int b, int c, int d, int e) {
        if (tape.length() > 80) {
            return -1;
        }
        for (int word : new int[] {a, b, c, d, e}) {
            for (byte one : java.nio.ByteBuffer.allocate(4).putInt(word).array()) {
                tape += (char) (one & 255);
            }
        }
        return tape.length();
    }

    int model(int n) {
        if (n < 0 || n > tape.length()) {
            throw new IllegalArgumentException();
        }
        if (models.size() == 6) {
            throw new IllegalStateException();
        }
        String text = tape.substring(0, n);
        tape = "";
        if (!MODEL.matcher(text).matches()) {
            for (int k = 0; k < n; k++) {
                if (!mayBegin(text.substring(0, k + 1))) {
                    return -2 - k;
                }
            }
            return -2 - n;
        }
        List<int[]> cells = new ArrayList<>();
        String[] layers = text.replace(" ", "").split(";");
        for (int z = 0; z < layers.length; z++) {
            String[] parts = layers[z].split("[x@,]");
            int left = Integer.parseInt(parts[2]);
            int front = Integer.parseInt(parts[3]);
            for (int x = left; x < left + Integer.parseInt(parts[0]); x++) {
                for (int y = front; y < front + Integer.parseInt(parts[1]); y++) {
                    cells.add(new int[] {x, y, z});
                }
            }
        }
        models.add(cells);
        return models.size() - 1;
    }

    private static boolean mayBegin(String text) {
        Matcher matcher = MODEL.matcher(text);
        return matcher.matches() || matcher.hitEnd();
    }

    int price(int weight, int price) {
        if (weight < 1 || weight > 216 || price < 0 || price > 10000) {
            throw new IllegalArgumentException();
        }
        for (int[] step : steps) {
            if (step[0] == weight) {
                step[1] = price;
                return steps.size();
            }
        }
        if (steps.size() == 10) {
            return -1;
        }
        steps.add(new int[] {weight, price});
        steps.sort(Comparator.comparingInt(step -> step[0]));
        return steps.size();
    }

    int worth(int weight) {
        if (weight < 0 || weight > 216) {
            throw new IllegalArgumentException();
        }
        int price = 0;
        for (int[] step : steps) {
            price = step[0] <= weight ? step[1] : price;
        }
        return price * weight;
    }

    /** Every move of a laid model that keeps it on true cells: a, b, c. */
    private static List<int[]> moves(boolean[][][] cells, List<int[]> model, int size, int way) {
        List<int[]> laid = new ArrayList<>();
        int[] least = {99, 99, 99};
        int[] most = {-99, -99, -99};
        for (int[] cell : model) {
            int x = cell[0];
            int y = cell[1];
            int z = cell[2];
            int[][] ways = {{x, y, z}, {x, z, y}, {y, x, z}, {y, z, x}, {z, x, y}, {z, y, x}};
            for (int i = 0; i < size * size * size; i++) {
                int[] inner = {i % size, i / size % size, i / size / size};
                int[] at = new int[3];
                for (int k = 0; k < 3; k++) {
                    at[k] = size * ways[way][k] + inner[k];
                    least[k] = Math.min(least[k], at[k]);
                    most[k] = Math.max(most[k], at[k]);
                }
                laid.add(at);
            }
        }
        List<int[]> found = new ArrayList<>();
        for (int a = -least[0]; a + most[0] <= 5; a++) {
            for (int b = -least[1]; b + most[1] <= 5; b++) {
                for (int c = -least[2]; c + most[2] <= 5; c++) {
                    boolean good = true;
                    for (int k = 0; k < laid.size() && good; k++) {
                        int[] at = laid.get(k);
                        good = cells[at[0] + a][at[1] + b][at[2] + c];
                    }
                    if (good) {
                        found.add(new int[] {a, b, c});
                    }
                }
            }
        }
        return found;
    }

    int fit(int rough, int model, int way) {
        boolean[][][] cells = roughAt(rough);
        if (model < 0 || model >= models.size()) {
            throw new NoSuchElementException();
        }
        if (way < 0 || way > 5) {
            throw new IllegalArgumentException();
        }
        int greatest = 0;
        for (int size = 1; size <= 6; size++) {
            greatest = moves(cells, models.get(model), size, way).isEmpty() ? greatest : size;
        }
        return greatest;
    }

    private int[] cutOf(boolean[][][] cells) {
        int[] best = null;
        for (int model = 0; model < models.size(); model++) {
            for (int size = 1; size <= 6; size++) {
                int weight = models.get(model).size() * size * size * size;
                if (weight > 216 || worth(weight) == 0) {
                    continue;
                }
                for (int way = 0; way < 6; way++) {
                    for (int[] move : moves(cells, models.get(model), size, way)) {
                        int[] cut = {worth(weight), model, size, way, move[0], move[1], move[2], weight};
                        best = best == null || AHEAD.compare(cut, best) < 0 ? cut : best;
                    }
                }
            }
        }
        return best;
    }

    private static boolean[][][] part(boolean[][][] cells, int axis, int from, int to) {
        boolean[][][] kept = new boolean[6][6][6];
        for (int x = 0; x < 6; x++) {
            for (int y = 0; y < 6; y++) {
                for (int z = 0; z < 6; z++) {
                    int at = new int[] {x, y, z}[axis];
                    kept[x][y][z] = cells[x][y][z] && at >= from && at <= to;
                }
            }
        }
        return kept;
    }

    private static final class Choice {
        int axis = -1;
        int at = -1;
        int worth = 0;
        List<int[]> cuts = new ArrayList<>();
    }

    private Choice choice(int rough) {
        boolean[][][] cells = roughAt(rough);
        Choice best = choiceOf(-1, -1, cutOf(cells), null);
        for (int axis = 0; axis < 3; axis++) {
            for (int at = 1; at <= 4; at++) {
                Choice sawn = choiceOf(axis, at, cutOf(part(cells, axis, 0, at - 1)),
                        cutOf(part(cells, axis, at + 1, 5)));
                best = sawn.worth > best.worth ? sawn : best;
            }
        }
        return best;
    }

    private static Choice choiceOf(int axis, int at, int[] one, int[] other) {
        Choice choice = new Choice();
        choice.axis = axis;
        choice.at = at;
        for (int[] cut : Arrays.asList(one, other)) {
            if (cut != null) {
                choice.cuts.add(cut);
                choice.worth += cut[0];
            }
        }
        return choice;
    }

    int best(int rough) {
        return choice(rough).worth;
    }

    int sawn(int rough, int what) {
        roughAt(rough);
        if (what < 0 || what > 2) {
            throw new IllegalArgumentException();
        }
        Choice choice = choice(rough);
        return new int[] {choice.axis, choice.at, choice.cuts.size()}[what];
    }

    int cut(int rough, int k, int what) {
        roughAt(rough);
        if (what < 0 || what > 6) {
            throw new IllegalArgumentException();
        }
        return ofCut(choice(rough), k, what);
    }

    /** All that best, sawn and cut can tell, of three cuts, found once: trying everything out is slow. */
    int[] allOfBest(int rough) {
        Choice choice = choice(rough);
        int[] told = new int[4 + 3 * 7];
        told[0] = choice.worth;
        told[1] = choice.axis;
        told[2] = choice.at;
        told[3] = choice.cuts.size();
        for (int k = 0; k < 3; k++) {
            for (int what = 0; what < 7; what++) {
                told[4 + 7 * k + what] = ofCut(choice, k, what);
            }
        }
        return told;
    }

    private static int ofCut(Choice choice, int k, int what) {
        if (k < 0 || k >= choice.cuts.size()) {
            return what == 3 || what == 4 || what == 5 ? -1000 : -1;
        }
        return choice.cuts.get(k)[what + 1];
    }

    int done(int rough) {
        Choice choice = choice(rough);
        if (stones.size() + choice.cuts.size() > 40) {
            return -1;
        }
        for (int[] cut : choice.cuts) {
            Gem gem = new Gem();
            gem.grains = 1000 * cut[7];
            gem.rough = rough;
            gem.model = cut[1];
            stones.add(gem);
        }
        roughs.set(rough, new boolean[6][6][6]);
        return choice.cuts.size();
    }

    private Gem gemAt(int stone) {
        if (stone < 0 || stone >= stones.size()) {
            throw new NoSuchElementException();
        }
        return stones.get(stone);
    }

    int facet(int stone, int index, int angle) {
        Gem gem = gemAt(stone);
        if (index < 0 || index > 95 || angle < 0 || angle > 90) {
            throw new IllegalArgumentException();
        }
        if (gem.polished) {
            return -1;
        }
        if (gem.facets.size() == 8) {
            return -2;
        }
        gem.facets.add(new int[] {index, angle});
        return gem.facets.size();
    }

    /** The plan, with its length behind it: all orders are gone through, the first of the shortest stays. */
    private static int[] planOf(Gem gem) {
        int many = gem.facets.size();
        int[] best = new int[many + 1];
        best[many] = many == 0 ? 0 : Integer.MAX_VALUE;
        if (many > 0) {
            tryOrders(gem, new int[many], 0, 0, best);
        }
        return best;
    }

    private static void tryOrders(Gem gem, int[] order, int set, int length, int[] best) {
        int many = order.length;
        if (set == many) {
            if (length < best[many]) {
                System.arraycopy(order, 0, best, 0, many);
                best[many] = length;
            }
            return;
        }
        int[] from = set == 0 ? new int[] {0, 0} : gem.facets.get(order[set - 1]);
        for (int next = 0; next < many; next++) {
            boolean gone = false;
            for (int k = 0; k < set; k++) {
                gone |= order[k] == next;
            }
            if (!gone) {
                int[] to = gem.facets.get(next);
                int turn = Math.floorMod(to[0] - from[0], 96);
                order[set] = next;
                tryOrders(gem, order, set + 1,
                        length + Math.min(turn, 96 - turn) + 2 * Math.abs(to[1] - from[1]), best);
            }
        }
    }

    int round(int stone) {
        int[] plan = planOf(gemAt(stone));
        return plan[plan.length - 1];
    }

    int plan(int stone, int k) {
        int[] plan = planOf(gemAt(stone));
        return k < 0 || k >= plan.length - 1 ? -1 : plan[k];
    }

    int polish(int stone) {
        Gem gem = gemAt(stone);
        if (gem.polished) {
            return -1;
        }
        if (gem.facets.isEmpty()) {
            return -2;
        }
        int[] plan = planOf(gem);
        for (int k = 0; k < plan.length - 1; k++) {
            long part = (long) gem.grains * (gem.facets.get(plan[k])[1] + 10);
            gem.grains -= (int) (part / 1000 + (part % 1000 > 0 ? 1 : 0));
        }
        gem.polished = true;
        return gem.grains;
    }

    int told(int stone, int what) {
        Gem gem = gemAt(stone);
        if (what < 0 || what > 6) {
            throw new IllegalArgumentException();
        }
        return new int[] {gem.grains, gem.rough, gem.model, gem.polished ? 1 : 0, gem.mate, gem.lot, gem.buyer}[what];
    }

    private int[] bestMates;
    private long[] bestRank;

    /** Goes through all sets of pairs and compares each as the document does. */
    int match() {
        List<Integer> free = new ArrayList<>();
        for (int k = 0; k < stones.size() && free.size() < 10; k++) {
            Gem gem = stones.get(k);
            if (gem.polished && gem.mate == -1 && gem.buyer == -1) {
                free.add(k);
            }
        }
        int[] mates = new int[free.size()];
        Arrays.fill(mates, -1);
        bestMates = null;
        bestRank = null;
        tryMates(free, mates, 0, 0, 0);
        for (int k = 0; k < free.size(); k++) {
            stones.get(free.get(k)).mate = bestMates[k] == -1 ? -1 : free.get(bestMates[k]);
        }
        return (int) -bestRank[0];
    }

    private void tryMates(List<Integer> free, int[] mates, int at, int pairs, long differences) {
        if (at == mates.length) {
            long[] rank = new long[2 + mates.length];
            rank[0] = -pairs;
            rank[1] = differences;
            for (int k = 0; k < mates.length; k++) {
                rank[k + 2] = mates[k] == -1 ? 1000 : mates[k];
            }
            if (bestRank == null || Arrays.compare(rank, bestRank) < 0) {
                bestRank = rank;
                bestMates = mates.clone();
            }
            return;
        }
        tryMates(free, mates, at + 1, pairs, differences);
        if (mates[at] != -1) {
            return;
        }
        for (int other = at + 1; other < mates.length; other++) {
            long one = stones.get(free.get(at)).grains;
            long two = stones.get(free.get(other)).grains;
            if (mates[other] == -1 && Math.abs(one - two) * 1000 <= 100 * Math.max(one, two)) {
                mates[at] = other;
                mates[other] = at;
                tryMates(free, mates, at + 1, pairs + 1, differences + Math.abs(one - two));
                mates[at] = -1;
                mates[other] = -1;
            }
        }
    }

    int lot(int low, int high) {
        List<Integer> chosen = new ArrayList<>();
        for (int k = 0; k < 32; k++) {
            for (int half = 0; half < 2; half++) {
                if (((half == 0 ? low : high) >> k & 1) != 0) {
                    int stone = k + 20 * half;
                    if (k >= 20 || stone >= stones.size()) {
                        throw new IllegalArgumentException();
                    }
                    chosen.add(stone);
                }
            }
        }
        if (chosen.isEmpty() || chosen.size() > 10) {
            return -1;
        }
        for (int stone : chosen) {
            if (stones.get(stone).lot != -1 || stones.get(stone).buyer != -1) {
                return -2;
            }
        }
        for (int stone : chosen) {
            if (stones.get(stone).mate != -1 && !chosen.contains(stones.get(stone).mate)) {
                return -3;
            }
        }
        if (lots.size() == 6) {
            return -4;
        }
        for (int stone : chosen) {
            stones.get(stone).lot = lots.size();
        }
        lots.add(new int[4]);
        return lots.size() - 1;
    }

    int bid(int bidder, int lot, int price) {
        if (bidder < 0 || bidder > 3) {
            throw new IndexOutOfBoundsException();
        }
        if (lot < 0 || lot >= lots.size() || price < 1 || price > 1000000) {
            throw new IllegalArgumentException();
        }
        if (lots.get(lot)[bidder] != 0) {
            return -1;
        }
        lots.get(lot)[bidder] = price;
        return 1;
    }

    int most(int bidder, int most) {
        if (bidder < 0 || bidder > 3) {
            throw new IndexOutOfBoundsException();
        }
        if (most < 0 || most > 6) {
            throw new IllegalArgumentException();
        }
        int before = limits[bidder];
        limits[bidder] = most;
        return before;
    }

    /** All ways as numbers of base 5, the first lot's digit the highest, 4 being none: so the first is the least. */
    int sell() {
        int ways = (int) Math.pow(5, lots.size());
        int bestSum = -1;
        int[] bestWay = null;
        for (int way = 0; way < ways; way++) {
            int[] given = new int[lots.size()];
            int[] taken = new int[5];
            int sum = 0;
            boolean good = true;
            int rest = way;
            for (int lot = lots.size() - 1; lot >= 0; lot--) {
                given[lot] = rest % 5;
                rest /= 5;
                taken[given[lot]]++;
                if (given[lot] < 4) {
                    good &= lots.get(lot)[given[lot]] > 0;
                    sum += lots.get(lot)[given[lot]];
                }
            }
            for (int bidder = 0; bidder < 4; bidder++) {
                good &= taken[bidder] <= limits[bidder];
            }
            if (good && sum > bestSum) {
                bestSum = sum;
                bestWay = given;
            }
        }
        for (Gem gem : stones) {
            if (gem.lot != -1) {
                gem.buyer = bestWay[gem.lot] == 4 ? -1 : bestWay[gem.lot];
                gem.lot = -1;
            }
        }
        lots.clear();
        brought += bestSum;
        return bestSum;
    }

    int count(int what) {
        int sold = 0;
        for (Gem gem : stones) {
            sold += gem.buyer != -1 ? 1 : 0;
        }
        int[] counts = {roughs.size(), models.size(), stones.size(), lots.size(), brought, steps.size(),
            tape.length(), sold};
        return what < 0 || what > 7 ? -1 : counts[what];
    }
}

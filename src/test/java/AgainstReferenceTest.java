import java.util.Random;

/**
 * Runs of chance calls (of a fixed seed), each answered by the class and by the slow reference: mixed ones, and
 * ones that are about cuts, wheels, pairs or sales alone, which mixed runs seldom come to.
 */
public final class AgainstReferenceTest {
    private final Random chance;
    private final RoughStones house = new RoughStones();
    private final Reference reference = new Reference();
    private final StringBuilder trail = new StringBuilder();

    private AgainstReferenceTest(long seed) {
        chance = new Random(seed);
    }

    public static void main(String[] args) {
        int runs = Integer.getInteger("runs", 80);
        long from = Long.getLong("seed", 1);
        for (long seed = from; seed < from + runs; seed++) {
            new AgainstReferenceTest(seed).tell(seed, AgainstReferenceTest::runMixed);
            new AgainstReferenceTest(seed).tell(seed, AgainstReferenceTest::runCuts);
            new AgainstReferenceTest(seed).tell(seed, AgainstReferenceTest::runWheel);
            new AgainstReferenceTest(seed).tell(seed, AgainstReferenceTest::runPairs);
            new AgainstReferenceTest(seed).tell(seed, AgainstReferenceTest::runSales);
        }
        Check.end();
    }

    private void tell(long seed, java.util.function.Predicate<AgainstReferenceTest> run) {
        if (!run.test(this)) {
            System.out.println("seed " + seed + trail);
        }
    }

    private boolean runMixed() {
        int kind = chance.nextInt(4);
        start(kind);
        for (int k = 0; k < 440; k++) {
            if (!step()) {
                return false;
            }
        }
        return true;
    }

    /** Few prices, low ones too, so that many cuts and sawings are of the same worth. */
    private boolean runCuts() {
        boolean good = ask("rough", house::rough, reference::rough);
        int models = 1 + chance.nextInt(4);
        for (int k = 0; k < models; k++) {
            good = good && type(goodModel());
        }
        for (int k = 0; k < 4; k++) {
            int weight = 1 + chance.nextInt(chance.nextBoolean() ? 6 : 70);
            int price = chance.nextInt(5);
            good = good && ask("price " + weight + " " + price, () -> house.price(weight, price),
                    () -> reference.price(weight, price)) && scanWhole(chance.nextInt(5)) && askBest();
        }
        return good && ask("done", () -> house.done(0), () -> reference.done(0)) && askBest();
    }

    /** All layers of rough 0: of one in so many cells (0: of none) nothing is sound. */
    private boolean scanWhole(int rare) {
        boolean good = true;
        for (int z = 0; z < 6 && good; z++) {
            int layer = z;
            long sound = Check.FULL;
            for (int bit = 0; bit < 36; bit++) {
                sound &= rare > 0 && chance.nextInt(rare * rare + 1) == 0 ? ~(1L << bit) : -1L;
            }
            long left = sound;
            good = ask("scan 0 " + z + " " + left, () -> house.scan(0, layer, left, 0),
                    () -> reference.scan(0, layer, left, 0));
        }
        return good;
    }

    private boolean askBest() {
        int[] due = reference.allOfBest(0);
        boolean good = ask("best", () -> house.best(0), () -> due[0]);
        for (int k = 0; k < 3; k++) {
            int what = k;
            good = good && ask("sawn " + k, () -> house.sawn(0, what), () -> due[1 + what]);
        }
        for (int k = 0; k < 21; k++) {
            int at = k;
            good = good && ask("cut " + k / 7 + " " + k % 7, () -> house.cut(0, at / 7, at % 7), () -> due[4 + at]);
        }
        return good;
    }

    /** Facets from a coarse grid, so that many rounds are of the same length. */
    private boolean runWheel() {
        boolean good = makeStones(3);
        for (int stone = 0; stone < 3; stone++) {
            int grid = 1 + chance.nextInt(16);
            int many = 1 + chance.nextInt(8);
            for (int k = 0; k < many; k++) {
                good = good && tellFacet(stone, grid * chance.nextInt(96 / grid), grid * chance.nextInt(91 / grid));
            }
            good = good && askPlan(stone) && askPolish(stone) && askPlan(stone);
        }
        return good;
    }

    private boolean askPlan(int stone) {
        boolean good = ask("round " + stone, () -> house.round(stone), () -> reference.round(stone));
        for (int k = 0; k < 9; k++) {
            int at = k;
            good = good && ask("plan " + stone + " " + k, () -> house.plan(stone, at), () -> reference.plan(stone, at));
        }
        return good;
    }

    private boolean runPairs() {
        int many = 2 + chance.nextInt(14);
        int grid = 1 + chance.nextInt(30);
        boolean good = makeStones(many);
        for (int stone = 0; stone < many; stone++) {
            int facets = chance.nextInt(4);
            for (int k = 0; k < facets; k++) {
                good = good && tellFacet(stone, 0, grid * chance.nextInt(91 / grid));
            }
            good = good && askPolish(stone);
        }
        for (int k = 0; k < 3; k++) {
            good = good && ask("match", house::match, reference::match) && askAll(4);
        }
        return good;
    }

    private boolean runSales() {
        int stones = 12;
        boolean good = makeStones(stones);
        for (int sale = 0; sale < 3; sale++) {
            int lots = chance.nextInt(7);
            for (int k = 0; k < lots; k++) {
                int low = 1 << chance.nextInt(stones);
                good = good && ask("lot " + low, () -> house.lot(low, 0), () -> reference.lot(low, 0));
            }
            int dearest = 1 + chance.nextInt(5);
            for (int k = 0; k < 24; k++) {
                int bidder = k % 4;
                int lot = k / 4;
                int price = 1 + chance.nextInt(dearest);
                good = good && (chance.nextInt(5) == 0 || ask("bid " + bidder + " " + lot + " " + price,
                        () -> house.bid(bidder, lot, price), () -> reference.bid(bidder, lot, price)));
            }
            for (int k = 0; k < 4; k++) {
                int bidder = k;
                int limit = chance.nextInt(4);
                good = good && ask("most " + k + " " + limit, () -> house.most(bidder, limit),
                        () -> reference.most(bidder, limit));
            }
            good = good && ask("sell", house::sell, reference::sell) && askAll(6) && askAll(5);
        }
        return good;
    }

    /** Stones of one to three cells. */
    private boolean makeStones(int many) {
        boolean good = ask("rough", house::rough, reference::rough) && type("1x1@0,0") && type("2x1@0,0")
                && type("3x1@0,0") && ask("price", () -> house.price(1, 1), () -> reference.price(1, 1));
        for (int k = 0; k < many; k++) {
            long sound = (1L << 1 + chance.nextInt(3)) - 1;
            good = good && ask("scan " + sound, () -> house.scan(0, 0, sound, 0), () -> reference.scan(0, 0, sound, 0))
                    && ask("done", () -> house.done(0), () -> reference.done(0));
        }
        return good;
    }

    private boolean tellFacet(int stone, int index, int angle) {
        return ask("facet " + stone + " " + index + " " + angle, () -> house.facet(stone, index, angle),
                () -> reference.facet(stone, index, angle));
    }

    private boolean askPolish(int stone) {
        return ask("polish " + stone, () -> house.polish(stone), () -> reference.polish(stone));
    }

    /** Most runs begin with models and prices, so that stones come early. */
    private void start(int kind) {
        ask("rough", house::rough, reference::rough);
        for (int k = 0; k < 2 * kind; k++) {
            type(goodModel());
        }
        for (int k = 0; k < kind; k++) {
            int weight = 1 + chance.nextInt(12);
            int price = 1 + chance.nextInt(9);
            ask("price " + weight + " " + price, () -> house.price(weight, price),
                    () -> reference.price(weight, price));
        }
    }

    private boolean step() {
        int what = chance.nextInt(100);
        if (what < 25) {
            return roughStep();
        }
        if (what < 35) {
            return setUpStep();
        }
        if (what < 50) {
            return cutStep();
        }
        if (what < 75) {
            return stoneStep();
        }
        return saleStep();
    }

    private boolean roughStep() {
        int rough = near(reference.count(0));
        switch (chance.nextInt(12)) {
            case 0:
                return ask("rough", house::rough, reference::rough);
            case 1:
                return ask("stuff " + rough, () -> house.stuff(rough), () -> reference.stuff(rough));
            case 2:
            case 3:
            case 4:
                return ask("done " + rough, () -> house.done(rough), () -> reference.done(rough));
            default:
                return scanSome(rough);
        }
    }

    private boolean scanSome(int rough) {
        int layers = chance.nextInt(4) == 0 ? 6 : 1;
        int first = layers == 6 ? 0 : near(6);
        int density = chance.nextInt(4);
        for (int z = first; z < first + layers; z++) {
            int layer = z;
            long sound = layerBits(density);
            long flawed = chance.nextBoolean() ? 0 : layerBits(3) & layerBits(3) & layerBits(3);
            if (!ask("scan " + rough + " " + z + " " + sound + " " + flawed,
                    () -> house.scan(rough, layer, sound, flawed),
                    () -> reference.scan(rough, layer, sound, flawed))) {
                return false;
            }
        }
        return true;
    }

    private long layerBits(int density) {
        if (chance.nextInt(60) == 0) {
            return chance.nextLong();
        }
        if (density == 0) {
            return Check.FULL;
        }
        if (density == 1) {
            return Check.FULL & ~(1L << chance.nextInt(36)) & ~(1L << chance.nextInt(36));
        }
        if (density == 2) {
            return 1L << chance.nextInt(36) | 1L << chance.nextInt(36);
        }
        return chance.nextLong() & Check.FULL;
    }

    private boolean setUpStep() {
        if (chance.nextInt(3) == 0) {
            int weight = chance.nextInt(12) == 0 ? near(217) : 1 + chance.nextInt(30);
            int price = chance.nextInt(12) == 0 ? near(10001) : chance.nextInt(10);
            return ask("price " + weight + " " + price, () -> house.price(weight, price),
                    () -> reference.price(weight, price));
        }
        if (chance.nextInt(3) == 0) {
            int weight = near(217);
            return ask("worth " + weight, () -> house.worth(weight), () -> reference.worth(weight));
        }
        if (chance.nextInt(8) == 0) {
            int n = near(reference.count(6) + 1);
            return ask("model " + n, () -> house.model(n), () -> reference.model(n));
        }
        return type(chance.nextInt(4) == 0 ? goodModel() : spoilt(goodModel()));
    }

    private boolean cutStep() {
        int rough = near(reference.count(0));
        int what = near(7);
        int k = near(2);
        switch (chance.nextInt(4)) {
            case 0:
                int model = near(reference.count(1));
                int way = near(6);
                return ask("fit " + rough + " " + model + " " + way, () -> house.fit(rough, model, way),
                        () -> reference.fit(rough, model, way));
            case 1:
                return ask("best " + rough, () -> house.best(rough), () -> reference.best(rough));
            case 2:
                int part = near(3);
                return ask("sawn " + rough + " " + part, () -> house.sawn(rough, part),
                        () -> reference.sawn(rough, part));
            default:
                return ask("cut " + rough + " " + k + " " + what, () -> house.cut(rough, k, what),
                        () -> reference.cut(rough, k, what));
        }
    }

    private boolean stoneStep() {
        int stone = near(reference.count(2));
        switch (chance.nextInt(10)) {
            case 0:
                return ask("round " + stone, () -> house.round(stone), () -> reference.round(stone));
            case 1:
                int k = near(8);
                return ask("plan " + stone + " " + k, () -> house.plan(stone, k), () -> reference.plan(stone, k));
            case 2:
            case 3:
                return askPolish(stone);
            case 4:
                int what = near(7);
                return ask("told " + stone + " " + what, () -> house.told(stone, what),
                        () -> reference.told(stone, what));
            case 5:
                return chance.nextInt(4) > 0 || (ask("match", house::match, reference::match) && askAll(4));
            default:
                int index = chance.nextInt(3) == 0 ? near(96) : 12 * chance.nextInt(8);
                int angle = chance.nextInt(3) == 0 ? near(91) : 6 * chance.nextInt(4);
                return tellFacet(stone, index, angle);
        }
    }

    private boolean saleStep() {
        int bidder = near(4);
        switch (chance.nextInt(20)) {
            case 0:
                return ask("sell", house::sell, reference::sell) && askAll(6);
            case 1:
            case 2:
                int lots = near(7);
                return ask("most " + bidder + " " + lots, () -> house.most(bidder, lots),
                        () -> reference.most(bidder, lots));
            case 3:
                int what = near(8);
                return ask("count " + what, () -> house.count(what), () -> reference.count(what));
            case 4:
            case 5:
            case 6:
            case 7:
            case 8:
                return lotStep();
            default:
                int lot = near(reference.count(3));
                int price = chance.nextInt(10) == 0 ? near(1000001) : 1 + chance.nextInt(6);
                return ask("bid " + bidder + " " + lot + " " + price, () -> house.bid(bidder, lot, price),
                        () -> reference.bid(bidder, lot, price));
        }
    }

    private boolean lotStep() {
        long bits = 0;
        int many = chance.nextInt(4) == 0 ? chance.nextInt(13) : 1 + chance.nextInt(2);
        for (int k = 0; k < many; k++) {
            int stone = near(reference.count(2));
            bits |= stone >= 0 && stone < 40 ? 1L << stone : 0;
            if (stone >= 0 && stone < reference.count(2) && reference.told(stone, 4) != -1 && chance.nextInt(5) > 0) {
                bits |= 1L << reference.told(stone, 4);
            }
        }
        int low = (int) (bits & 0xFFFFF) | (chance.nextInt(60) == 0 ? 1 << 20 + chance.nextInt(12) : 0);
        int high = (int) (bits >>> 20) | (chance.nextInt(60) == 0 ? 1 << 20 + chance.nextInt(12) : 0);
        return ask("lot " + low + " " + high, () -> house.lot(low, high), () -> reference.lot(low, high));
    }

    private boolean askAll(int what) {
        for (int k = 0; k < reference.count(2); k++) {
            int stone = k;
            if (!ask("told " + k + " " + what, () -> house.told(stone, what), () -> reference.told(stone, what))) {
                return false;
            }
        }
        return true;
    }

    /** Mostly a number from 0 up to the bound, now and then one just or far outside. */
    private int near(int bound) {
        int kind = chance.nextInt(80);
        if (kind == 0) {
            return -1;
        }
        if (kind == 1) {
            return bound;
        }
        if (kind == 2) {
            return chance.nextInt();
        }
        return bound > 0 ? chance.nextInt(bound) : 0;
    }

    private boolean type(String text) {
        for (int from = 0; from < text.length(); from += 20) {
            int a = Check.word(text, from);
            int b = Check.word(text, from + 4);
            int c = Check.word(text, from + 8);
            int d = Check.word(text, from + 12);
            int e = Check.word(text, from + 16);
            if (!ask("feed '" + text + "'", () -> house.feed(a, b, c, d, e), () -> reference.feed(a, b, c, d, e))) {
                return false;
            }
        }
        int n = text.length();
        return ask("model " + n, () -> house.model(n), () -> reference.model(n));
    }

    private String goodModel() {
        StringBuilder text = new StringBuilder();
        int layers = 1 + chance.nextInt(chance.nextInt(6) + 1);
        int wide = 1 + chance.nextInt(6);
        for (int z = 0; z < layers; z++) {
            int w = 1 + chance.nextInt(wide);
            int d = 1 + chance.nextInt(wide);
            String[] signs = {z > 0 ? ";" : "", "" + w, "x", "" + d, "@", "" + chance.nextInt(7 - w), ",",
                "" + chance.nextInt(7 - d)};
            for (String sign : signs) {
                text.append(chance.nextInt(25) == 0 ? " " : "").append(sign);
            }
        }
        return text.append(chance.nextInt(5) == 0 ? "  " : "").toString();
    }

    private String spoilt(String good) {
        String signs = "0123456789x@,; X\t";
        StringBuilder text = new StringBuilder(good);
        int at = chance.nextInt(text.length());
        char sign = chance.nextInt(10) == 0 ? (char) chance.nextInt(256) : signs.charAt(chance.nextInt(signs.length()));
        switch (chance.nextInt(5)) {
            case 0:
                text.setLength(at);
                break;
            case 1:
                text.insert(at, sign);
                break;
            case 2:
                text.deleteCharAt(at);
                break;
            case 3:
                text.append(";").append(good);
                break;
            default:
                text.setCharAt(at, sign);
        }
        return text.length() > 100 ? text.substring(0, 100) : text.toString();
    }

    private boolean ask(String what, Check.Call tested, Check.Call slow) {
        trail.append("\n  ").append(what);
        String got = answer(tested, what);
        String want = answer(slow, null);
        Check.due(what + ": " + got + " for " + want, got.equals(want) ? 1 : 0, 1);
        return got.equals(want);
    }

    private static String answer(Check.Call call, String ownThrow) {
        try {
            return "" + call.answer();
        } catch (RuntimeException thrown) {
            if (ownThrow != null) {
                Check.dueOwnThrow(ownThrow, thrown);
            }
            return thrown.getClass().getSimpleName();
        }
    }
}

import java.util.ArrayList;
import java.util.NoSuchElementException;

/**
 * A house of rough stones, from the scan of a ROUGH to the sale of its STONES.
 * The words in capitals are those of the document.
 */
public final class RoughStones {
    public static final int NONE = -1;

    private static final int SIDE = 6;
    private static final int AXES = 3;
    private static final int WAYS = 6;
    private static final int LAYER_CELLS = 36;
    private static final int ALL_CELLS = 216;
    private static final long FULL_LAYER = (1L << LAYER_CELLS) - 1;
    private static final int NO_MOVE = -1000;
    private static final int GRAINS = 1000;
    private static final int TURN = 96;
    private static final int STEEPEST = 90;
    private static final int BLANK = 32;
    private static final int HALF_STONES = 20;
    private static final int LARGEST_LOT = 10;
    private static final int DEAREST_CELL = 10000;
    private static final int DEAREST_BID = 1000000;
    private static final int BIDDERS = 4;

    private static final int MOST_ROUGHS = 10;
    private static final int MOST_MODELS = 6;
    private static final int MOST_STEPS = 10;
    private static final int MOST_STONES = 40;
    private static final int MOST_FACETS = 8;
    private static final int MOST_LOTS = 6;
    private static final int MOST_BYTES = 100;
    private static final int FEED_BYTES = 20;
    private static final int MATCHED_AT_ONCE = 10;

    /** For each WAY three numbers: which of a MODEL's x, y, z comes to lie along x, y and z. */
    private static final int[] TURNED = {0, 1, 2, 0, 2, 1, 1, 0, 2, 1, 2, 0, 2, 0, 1, 2, 1, 0};

    private final ArrayList<Rough> roughs;
    private final ArrayList<Model> models;
    private final ArrayList<Stone> stones;
    private final Tape tape;
    private final Prices prices;
    private final Saw saw;
    private final Wheel wheel;
    private final Matcher matcher;
    private final Auction auction;
    private int brought;

    public RoughStones() {
        roughs = new ArrayList<Rough>();
        models = new ArrayList<Model>();
        stones = new ArrayList<Stone>();
        tape = new Tape();
        prices = new Prices();
        saw = new Saw();
        wheel = new Wheel();
        matcher = new Matcher();
        auction = new Auction();
        brought = 0;
    }

    public int rough() {
        int number = roughs.size();
        if (number >= MOST_ROUGHS) {
            return NONE;
        }
        roughs.add(new Rough());
        return number;
    }

    public int scan(int rough, int z, long sound, long flawed)
            throws IndexOutOfBoundsException, IllegalArgumentException {
        Rough scanned = roughOf(rough);
        if (z < 0 || z >= SIDE) {
            throw new IndexOutOfBoundsException("no such layer");
        }
        if (isNoLayer(sound) || isNoLayer(flawed)) {
            throw new IllegalArgumentException("bits beyond a layer");
        }
        scanned.sound[z] = sound & ~flawed;
        scanned.known = false;
        return Long.bitCount(scanned.sound[z]);
    }

    public int stuff(int rough) throws IndexOutOfBoundsException {
        Rough asked = roughOf(rough);
        int cells = 0;
        for (int z = 0; z < SIDE; z++) {
            cells += Long.bitCount(asked.sound[z]);
        }
        return cells;
    }

    public int feed(int a, int b, int c, int d, int e) {
        if (tape.length + FEED_BYTES > MOST_BYTES) {
            return NONE;
        }
        tape.append(a);
        tape.append(b);
        tape.append(c);
        tape.append(d);
        tape.append(e);
        return tape.length;
    }

    public int model(int n) throws IllegalArgumentException, IllegalStateException {
        if (n < 0 || n > tape.length) {
            throw new IllegalArgumentException("not so many bytes on the tape");
        }
        int number = models.size();
        if (number >= MOST_MODELS) {
            throw new IllegalStateException("no more models");
        }
        boolean good = tape.readModel(n);
        tape.length = 0;
        if (!good) {
            return -2 - tape.at;
        }
        models.add(new Model(tape));
        forgetCuts();
        return number;
    }

    public int price(int weight, int price) throws IllegalArgumentException {
        if (weight < 1 || weight > ALL_CELLS || price < 0 || price > DEAREST_CELL) {
            throw new IllegalArgumentException("no such step");
        }
        if (!prices.put(weight, price)) {
            return NONE;
        }
        forgetCuts();
        return prices.steps;
    }

    public int worth(int weight) throws IllegalArgumentException {
        if (weight < 0 || weight > ALL_CELLS) {
            throw new IllegalArgumentException("no such weight");
        }
        return prices.worthOf(weight);
    }

    public int fit(int rough, int model, int way)
            throws IndexOutOfBoundsException, NoSuchElementException, IllegalArgumentException {
        Rough asked = roughOf(rough);
        if (model < 0 || model >= models.size()) {
            throw new NoSuchElementException("no such model");
        }
        if (way < 0 || way >= WAYS) {
            throw new IllegalArgumentException("no such way");
        }
        Model laid = models.get(model);
        for (int size = laid.greatest; size > 0; size--) {
            if (saw.search(asked.sound, laid, size, way)) {
                return size;
            }
        }
        return 0;
    }

    public int best(int rough) throws IndexOutOfBoundsException {
        return sawnRough(rough).worth;
    }

    public int sawn(int rough, int what) throws IndexOutOfBoundsException, IllegalArgumentException {
        Rough asked = sawnRough(rough);
        if (what < 0 || what > 2) {
            throw new IllegalArgumentException("no such thing of a sawing");
        }
        switch (what) {
            case 0:
                return asked.axis;
            case 1:
                return asked.at;
            default:
                return asked.cuts;
        }
    }

    public int cut(int rough, int k, int what) throws IndexOutOfBoundsException, IllegalArgumentException {
        Rough asked = sawnRough(rough);
        if (what < 0 || what > 6) {
            throw new IllegalArgumentException("no such thing of a cut");
        }
        if (k < 0 || k >= asked.cuts) {
            return what >= 3 && what <= 5 ? NO_MOVE : NONE;
        }
        return k == 0 ? asked.first.tell(what) : asked.second.tell(what);
    }

    public int done(int rough) throws IndexOutOfBoundsException {
        Rough ended = sawnRough(rough);
        int made = ended.cuts;
        if (stones.size() + made > MOST_STONES) {
            return NONE;
        }
        if (made > 0) {
            stones.add(new Stone(rough, ended.first));
        }
        if (made > 1) {
            stones.add(new Stone(rough, ended.second));
        }
        for (int z = 0; z < SIDE; z++) {
            ended.sound[z] = 0;
        }
        ended.known = false;
        return made;
    }

    public int facet(int stone, int index, int angle) throws NoSuchElementException, IllegalArgumentException {
        Stone told = stoneOf(stone);
        if (index < 0 || index >= TURN || angle < 0 || angle > STEEPEST) {
            throw new IllegalArgumentException("no such facet");
        }
        if (told.polished) {
            return -1;
        }
        if (told.facets >= MOST_FACETS) {
            return -2;
        }
        told.index[told.facets] = index;
        told.angle[told.facets] = angle;
        told.facets++;
        return told.facets;
    }

    public int round(int stone) throws NoSuchElementException {
        return plannedStone(stone).length;
    }

    public int plan(int stone, int k) throws NoSuchElementException {
        Stone asked = plannedStone(stone);
        if (k < 0 || k >= asked.facets || k >= MOST_FACETS) {
            return NONE;
        }
        return asked.order[k];
    }

    public int polish(int stone) throws NoSuchElementException {
        Stone worked = plannedStone(stone);
        if (worked.polished) {
            return -1;
        }
        if (worked.facets == 0) {
            return -2;
        }
        worked.grind();
        return worked.grains;
    }

    public int told(int stone, int what) throws NoSuchElementException, IllegalArgumentException {
        Stone asked = stoneOf(stone);
        if (what < 0 || what > 6) {
            throw new IllegalArgumentException("no such thing of a stone");
        }
        return asked.tell(what);
    }

    public int match() {
        return matcher.pairUp(stones);
    }

    public int lot(int low, int high) throws IllegalArgumentException {
        long bits = stoneBits(low, high);
        int many = Long.bitCount(bits);
        if (many < 1 || many > LARGEST_LOT) {
            return -1;
        }
        if (hasTaken(bits)) {
            return -2;
        }
        if (partsPair(bits)) {
            return -3;
        }
        if (auction.lots >= MOST_LOTS) {
            return -4;
        }
        int number = auction.lots;
        auction.lots++;
        for (int k = 0; k < stones.size(); k++) {
            if (holds(bits, k)) {
                stones.get(k).lot = number;
            }
        }
        return number;
    }

    public int bid(int bidder, int lot, int price) throws IndexOutOfBoundsException, IllegalArgumentException {
        refuseNoBidder(bidder);
        if (lot < 0 || lot >= auction.lots) {
            throw new IllegalArgumentException("no such lot");
        }
        if (price < 1 || price > DEAREST_BID) {
            throw new IllegalArgumentException("no such bid");
        }
        return auction.seal(bidder, lot, price) ? 1 : -1;
    }

    public int most(int bidder, int lots) throws IndexOutOfBoundsException, IllegalArgumentException {
        refuseNoBidder(bidder);
        if (lots < 0 || lots > MOST_LOTS) {
            throw new IllegalArgumentException("not so many lots");
        }
        int before = auction.limit[bidder];
        auction.limit[bidder] = lots;
        return before;
    }

    public int sell() {
        int sum = auction.giveAll();
        for (int k = 0; k < stones.size(); k++) {
            Stone stone = stones.get(k);
            if (stone.lot != NONE) {
                stone.buyer = auction.winnerOf(stone.lot);
                stone.lot = NONE;
            }
        }
        auction.clear();
        brought += sum;
        return sum;
    }

    public int count(int what) {
        switch (what) {
            case 0:
                return roughs.size();
            case 1:
                return models.size();
            case 2:
                return stones.size();
            case 3:
                return auction.lots;
            case 4:
                return brought;
            case 5:
                return prices.steps;
            case 6:
                return tape.length;
            case 7:
                return soldStones();
            default:
                return NONE;
        }
    }

    private Rough roughOf(int number) {
        if (number < 0 || number >= roughs.size()) {
            throw new IndexOutOfBoundsException("no such rough");
        }
        return roughs.get(number);
    }

    /** The ROUGH with its BEST found. */
    private Rough sawnRough(int number) {
        Rough asked = roughOf(number);
        if (!asked.known) {
            saw.findBest(asked, models, prices);
            asked.known = true;
        }
        return asked;
    }

    /** BEST is kept with each ROUGH; a new MODEL or price may make it another one. */
    private void forgetCuts() {
        for (int k = 0; k < roughs.size(); k++) {
            roughs.get(k).known = false;
        }
    }

    private Stone stoneOf(int number) {
        if (number < 0 || number >= stones.size()) {
            throw new NoSuchElementException("no such stone");
        }
        return stones.get(number);
    }

    /** FACETS are only ever added, so a PLAN holds as long as there are as many as it was made for. */
    private Stone plannedStone(int number) {
        Stone asked = stoneOf(number);
        if (asked.planned != asked.facets) {
            wheel.layPlan(asked);
            asked.planned = asked.facets;
        }
        return asked;
    }

    private long stoneBits(int low, int high) {
        int beyond = ~((1 << HALF_STONES) - 1);
        long bits = (long) low | (long) high << HALF_STONES;
        if ((low & beyond) != 0 || (high & beyond) != 0 || bits >>> stones.size() != 0) {
            throw new IllegalArgumentException("bits that tell no stone");
        }
        return bits;
    }

    private boolean hasTaken(long bits) {
        for (int k = 0; k < stones.size(); k++) {
            Stone stone = stones.get(k);
            if (holds(bits, k) && (stone.lot != NONE || stone.buyer != NONE)) {
                return true;
            }
        }
        return false;
    }

    private boolean partsPair(long bits) {
        for (int k = 0; k < stones.size(); k++) {
            int mate = stones.get(k).mate;
            if (holds(bits, k) && mate != NONE && !holds(bits, mate)) {
                return true;
            }
        }
        return false;
    }

    private int soldStones() {
        int sold = 0;
        for (int k = 0; k < stones.size(); k++) {
            if (stones.get(k).buyer != NONE) {
                sold++;
            }
        }
        return sold;
    }

    private static void refuseNoBidder(int bidder) {
        if (bidder < 0 || bidder >= BIDDERS) {
            throw new IndexOutOfBoundsException("no such bidder");
        }
    }

    private static boolean isNoLayer(long bits) {
        return (bits & ~FULL_LAYER) != 0;
    }

    private static boolean holds(long bits, int k) {
        return (bits >>> k & 1) != 0;
    }

    private static int lowestBit(long bits) {
        return Long.bitCount((bits & -bits) - 1);
    }

    /** The TAPE, which also reads the text of a MODEL from its first bytes. */
    private static final class Tape {
        final int[] bytes = new int[MOST_BYTES];
        int length = 0;

        /** Where the reading stands; after a text that is none, its PLACE. */
        int at = 0;
        int end = 0;
        int layers = 0;
        final int[] left = new int[SIDE];
        final int[] front = new int[SIDE];
        final int[] wide = new int[SIDE];
        final int[] deep = new int[SIDE];

        void append(int word) {
            for (int shift = 24; shift >= 0 && length < MOST_BYTES; shift -= 8) {
                bytes[length] = word >>> shift & 255;
                length++;
            }
        }

        boolean readModel(int n) {
            at = 0;
            end = n;
            for (int z = 0; z < SIDE; z++) {
                if (!readLayer(z)) {
                    return false;
                }
                layers = z + 1;
                if (isEnd()) {
                    return true;
                }
                if (layers < SIDE && !readSign(';')) {
                    return false;
                }
            }
            return false;
        }

        private boolean readLayer(int z) {
            wide[z] = readDigit(1, SIDE);
            if (wide[z] == NONE || !readSign('x')) {
                return false;
            }
            deep[z] = readDigit(1, SIDE);
            if (deep[z] == NONE || !readSign('@')) {
                return false;
            }
            left[z] = readDigit(0, SIDE - wide[z]);
            if (left[z] == NONE || !readSign(',')) {
                return false;
            }
            front[z] = readDigit(0, SIDE - deep[z]);
            return front[z] != NONE;
        }

        private int readDigit(int least, int greatest) {
            if (isEnd()) {
                return NONE;
            }
            int digit = bytes[at] - '0';
            if (digit < least || digit > greatest) {
                return NONE;
            }
            at++;
            return digit;
        }

        private boolean readSign(int sign) {
            if (isEnd() || bytes[at] != sign) {
                return false;
            }
            at++;
            return true;
        }

        /** Passes blanks first, since they may stand ahead of every sign and at the end. */
        private boolean isEnd() {
            while (at < end && at < MOST_BYTES && bytes[at] == BLANK) {
                at++;
            }
            return at >= end || at >= MOST_BYTES;
        }
    }

    /**
     * A MODEL. Its masks are made once for each SIZE and WAY, since every search uses them: bit x + 6 y of
     * row z, moved so that the least x, y and z are 0.
     */
    private static final class Model {
        final int[] least = new int[AXES];
        final int[] span = new int[AXES];
        final long[][] masks = new long[SIDE * WAYS][SIDE];
        final int cells;
        final int greatest;

        Model(Tape text) {
            int right = 0;
            int back = 0;
            int sum = 0;
            least[0] = SIDE;
            least[1] = SIDE;
            for (int z = 0; z < text.layers && z < SIDE; z++) {
                least[0] = Math.min(least[0], text.left[z]);
                least[1] = Math.min(least[1], text.front[z]);
                right = Math.max(right, text.left[z] + text.wide[z]);
                back = Math.max(back, text.front[z] + text.deep[z]);
                sum += text.wide[z] * text.deep[z];
            }
            span[0] = right - least[0];
            span[1] = back - least[1];
            span[2] = text.layers;
            cells = sum;
            int longest = Math.max(1, Math.max(span[0], Math.max(span[1], span[2])));
            greatest = SIDE / longest;
            for (int z = 0; z < text.layers && z < SIDE; z++) {
                layLayer(text, z);
            }
        }

        private void layLayer(Tape text, int z) {
            int x = text.left[z] - least[0];
            int y = text.front[z] - least[1];
            for (int k = 0; k < text.deep[z]; k++) {
                for (int i = 0; i < text.wide[z]; i++) {
                    for (int way = 0; way < WAYS; way++) {
                        layCell(x + i, y + k, z, way);
                    }
                }
            }
        }

        private void layCell(int x, int y, int z, int way) {
            int across = turned(x, y, z, TURNED[AXES * way]);
            int along = turned(x, y, z, TURNED[AXES * way + 1]);
            int up = turned(x, y, z, TURNED[AXES * way + 2]);
            for (int size = 1; size <= greatest && size <= SIDE; size++) {
                layBlock(masks[maskOf(size, way)], size * across, size * along, size * up, size);
            }
        }

        private static void layBlock(long[] mask, int x, int y, int z, int size) {
            long square = block(x, x + size - 1, y, y + size - 1);
            for (int k = 0; k < size && z + k < SIDE; k++) {
                mask[z + k] |= square;
            }
        }

        private static int turned(int x, int y, int z, int axis) {
            return axis == 0 ? x : axis == 1 ? y : z;
        }

        static int maskOf(int size, int way) {
            return (size - 1) * WAYS + way;
        }

        /** The bits of a layer from x to lastX and y to lastY. */
        static long block(int x, int lastX, int y, int lastY) {
            long row = (1L << lastX + 1) - (1L << x);
            long bits = 0;
            for (int k = y; k <= lastY; k++) {
                bits |= row << SIDE * k;
            }
            return bits;
        }
    }

    /** Steps of PRICES. */
    private static final class Prices {
        final int[] least = new int[MOST_STEPS];
        final int[] each = new int[MOST_STEPS];
        int steps = 0;

        boolean put(int weight, int price) {
            for (int k = 0; k < steps && k < MOST_STEPS; k++) {
                if (least[k] == weight) {
                    each[k] = price;
                    return true;
                }
            }
            if (steps >= MOST_STEPS) {
                return false;
            }
            least[steps] = weight;
            each[steps] = price;
            steps++;
            return true;
        }

        int worthOf(int weight) {
            int step = 0;
            int price = 0;
            for (int k = 0; k < steps && k < MOST_STEPS; k++) {
                if (least[k] <= weight && least[k] > step) {
                    step = least[k];
                    price = each[k];
                }
            }
            return weight * price;
        }
    }

    /** A MODEL as it is laid; its worth is 0 if there is none. */
    private static final class Cut {
        int worth = 0;
        int model = NONE;
        int size = 0;
        int way = 0;
        int a = 0;
        int b = 0;
        int c = 0;
        int weight = 0;

        void take(Cut other) {
            worth = other.worth;
            model = other.model;
            size = other.size;
            way = other.way;
            a = other.a;
            b = other.b;
            c = other.c;
            weight = other.weight;
        }

        int tell(int what) {
            switch (what) {
                case 0:
                    return model;
                case 1:
                    return size;
                case 2:
                    return way;
                case 3:
                    return a;
                case 4:
                    return b;
                case 5:
                    return c;
                default:
                    return weight;
            }
        }
    }

    /** A ROUGH, with BEST if it was asked for since the last change. */
    private static final class Rough {
        final long[] sound = new long[SIDE];
        boolean known = false;
        int axis = NONE;
        int at = NONE;
        int worth = 0;
        int cuts = 0;
        final Cut first = new Cut();
        final Cut second = new Cut();

        void takeWhole(Part whole) {
            axis = NONE;
            at = NONE;
            worth = whole.cut.worth;
            cuts = worth > 0 ? 1 : 0;
            first.take(whole.cut);
        }

        /** More than the whole's CUT brings can only be two CUTS: each alone FITS the whole too. */
        void takeSawn(Part lower, Part higher) {
            axis = lower.axis;
            at = lower.high;
            worth = lower.cut.worth + higher.cut.worth;
            cuts = 2;
            first.take(lower.cut);
            second.take(higher.cut);
        }
    }

    /** A part of a ROUGH, the CELLS from low up to high (without it) on an axis, with its CUT. */
    private static final class Part {
        final int axis;
        final int low;
        final int high;
        final Cut cut = new Cut();

        Part(int axis, int low, int high) {
            this.axis = axis;
            this.low = low;
            this.high = high;
        }
    }

    /**
     * Finds BEST. Every laid MODEL is looked for once, for the whole and all parts together. They come in the
     * order in which one goes ahead of another of the same WORTH, so only a greater WORTH takes a place.
     */
    private static final class Saw {
        static final int PLACES = 4;
        static final int SAWINGS = AXES * PLACES;

        /** The whole, then for each sawing the lower part and the higher one. */
        final Part[] parts = new Part[1 + 2 * SAWINGS];
        final Cut offered = new Cut();

        /** Where the mask laid last may begin, so that it lies on SOUND CELLS: bit x + 6 y of row z. */
        final long[] starts = new long[SIDE];
        final int[] span = new int[AXES];

        Saw() {
            parts[0] = new Part(2, 0, SIDE);
            for (int k = 0; k < SAWINGS; k++) {
                int axis = k / PLACES;
                int at = k % PLACES + 1;
                parts[2 * k + 1] = new Part(axis, 0, at);
                parts[2 * k + 2] = new Part(axis, at + 1, SIDE);
            }
        }

        void findBest(Rough rough, ArrayList<Model> models, Prices prices) {
            for (int k = 0; k < parts.length; k++) {
                parts[k].cut.worth = 0;
            }
            for (int k = 0; k < models.size(); k++) {
                Model model = models.get(k);
                offered.model = k;
                for (int size = model.greatest; size > 0; size--) {
                    offered.size = size;
                    offered.weight = model.cells * size * size * size;
                    offered.worth = prices.worthOf(offered.weight);
                    offerWays(rough, model);
                }
            }
            choose(rough);
        }

        private void offerWays(Rough rough, Model model) {
            for (int way = 0; way < WAYS && isWanted(); way++) {
                offered.way = way;
                if (search(rough.sound, model, offered.size, way)) {
                    for (int k = 0; k < parts.length; k++) {
                        offerTo(parts[k], model);
                    }
                }
            }
        }

        private boolean isWanted() {
            for (int k = 0; k < parts.length; k++) {
                if (offered.worth > parts[k].cut.worth) {
                    return true;
                }
            }
            return false;
        }

        private void offerTo(Part part, Model model) {
            int place = offered.worth > part.cut.worth ? firstWithin(part) : NONE;
            if (place != NONE) {
                int turn = AXES * offered.way;
                offered.a = place % SIDE - offered.size * model.least[TURNED[turn]];
                offered.b = place / SIDE % SIDE - offered.size * model.least[TURNED[turn + 1]];
                offered.c = place / LAYER_CELLS - offered.size * model.least[TURNED[turn + 2]];
                part.cut.take(offered);
            }
        }

        /** The first start, by z, y, x, with which the mask stays in the part: x + 6 y + 36 z, or NONE. */
        private int firstWithin(Part part) {
            int last = part.high - span[part.axis];
            if (last < part.low) {
                return NONE;
            }
            long wanted = FULL_LAYER;
            if (part.axis == 0) {
                wanted = Model.block(part.low, last, 0, SIDE - 1);
            } else if (part.axis == 1) {
                wanted = Model.block(0, SIDE - 1, part.low, last);
            }
            for (int z = 0; z < SIDE; z++) {
                boolean outside = part.axis == 2 && (z < part.low || z > last);
                long hit = outside ? 0 : starts[z] & wanted;
                if (hit != 0) {
                    return LAYER_CELLS * z + lowestBit(hit);
                }
            }
            return NONE;
        }

        private void choose(Rough rough) {
            rough.takeWhole(parts[0]);
            for (int k = 0; k < SAWINGS; k++) {
                Part lower = parts[2 * k + 1];
                Part higher = parts[2 * k + 2];
                if (lower.cut.worth + higher.cut.worth > rough.worth) {
                    rough.takeSawn(lower, higher);
                }
            }
        }

        /** Finds all starts of a MODEL, of at most its greatest SIZE, in a ROUGH; false: there is none. */
        boolean search(long[] sound, Model model, int size, int way) {
            for (int axis = 0; axis < AXES; axis++) {
                span[axis] = size * model.span[TURNED[AXES * way + axis]];
            }
            long inside = Model.block(0, SIDE - span[0], 0, SIDE - span[1]);
            long[] mask = model.masks[Model.maskOf(size, way)];
            boolean any = false;
            for (int z = 0; z < SIDE; z++) {
                starts[z] = z + span[2] <= SIDE ? startsInRow(sound, mask, z, inside) : 0;
                any = any || starts[z] != 0;
            }
            return any;
        }

        private long startsInRow(long[] sound, long[] mask, int z, long inside) {
            long left = inside;
            for (int k = 0; k < span[2] && z + k < SIDE && left != 0; k++) {
                left = startsOnSound(left, sound[z + k], mask[k]);
            }
            return left;
        }

        /** All starts at once: moved by a bit of the mask, the layer tells for which its CELL is SOUND. */
        private static long startsOnSound(long inside, long sound, long mask) {
            long left = inside;
            long rest = mask;
            for (int k = 0; k < LAYER_CELLS && rest != 0 && left != 0; k++) {
                left &= sound >>> Long.bitCount((rest & -rest) - 1);
                rest &= rest - 1;
            }
            return left;
        }
    }

    /** A STONE with its FACETS, its PLAN and its trail. */
    private static final class Stone {
        final int rough;
        final int model;
        int grains;
        boolean polished = false;
        int mate = NONE;
        int lot = NONE;
        int buyer = NONE;
        int facets = 0;
        final int[] index = new int[MOST_FACETS];
        final int[] angle = new int[MOST_FACETS];
        int planned = 0;
        int length = 0;
        final int[] order = new int[MOST_FACETS];

        Stone(int rough, Cut cut) {
            this.rough = rough;
            this.model = cut.model;
            this.grains = GRAINS * cut.weight;
        }

        void grind() {
            for (int k = 0; k < facets && k < MOST_FACETS; k++) {
                int thousandths = angle[order[k]] + 10;
                grains -= (grains * thousandths + 999) / 1000;
            }
            polished = true;
        }

        int tell(int what) {
            switch (what) {
                case 0:
                    return grains;
                case 1:
                    return rough;
                case 2:
                    return model;
                case 3:
                    return polished ? 1 : 0;
                case 4:
                    return mate;
                case 5:
                    return lot;
                default:
                    return buyer;
            }
        }
    }

    /** Lays the PLAN of a STONE: for every set of FACETS gone through, and the last one, how long the rest is. */
    private static final class Wheel {
        static final int SETS = 1 << MOST_FACETS;

        final int[] rest = new int[SETS * MOST_FACETS];
        final int[] apart = new int[MOST_FACETS * MOST_FACETS];
        final int[] start = new int[MOST_FACETS];

        void layPlan(Stone stone) {
            int facets = Math.min(stone.facets, MOST_FACETS);
            measure(stone, facets);
            int all = (1 << facets) - 1;
            for (int gone = all; gone > 0; gone--) {
                for (int last = 0; last < facets; last++) {
                    if (holds(gone, last)) {
                        rest[gone * MOST_FACETS + last] = shortest(gone, last, facets);
                    }
                }
            }
            stone.length = shortest(0, NONE, facets);
            follow(stone, facets);
        }

        private void measure(Stone stone, int facets) {
            for (int k = 0; k < facets; k++) {
                start[k] = way(stone.index[k], stone.angle[k]);
                for (int i = 0; i < facets; i++) {
                    apart[k * MOST_FACETS + i] =
                            way(stone.index[k] - stone.index[i], stone.angle[k] - stone.angle[i]);
                }
            }
        }

        private static int way(int indexes, int angles) {
            int turn = Math.abs(indexes);
            return Math.min(turn, TURN - turn) + 2 * Math.abs(angles);
        }

        private int shortest(int gone, int last, int facets) {
            int least = NONE;
            for (int next = 0; next < facets; next++) {
                if (!holds(gone, next)) {
                    int through = through(gone, last, next);
                    least = least == NONE || through < least ? through : least;
                }
            }
            return least == NONE ? 0 : least;
        }

        private int through(int gone, int last, int next) {
            int step = last == NONE ? start[next] : apart[last * MOST_FACETS + next];
            return step + rest[(gone | 1 << next) * MOST_FACETS + next];
        }

        private void follow(Stone stone, int facets) {
            int gone = 0;
            int last = NONE;
            for (int k = 0; k < facets; k++) {
                int next = firstOfShortest(gone, last, facets);
                stone.order[k] = next;
                gone |= 1 << next;
                last = next;
            }
        }

        private int firstOfShortest(int gone, int last, int facets) {
            int least = shortest(gone, last, facets);
            int next = 0;
            while (next < facets - 1 && (holds(gone, next) || through(gone, last, next) != least)) {
                next++;
            }
            return next;
        }
    }

    /** MATCHES: for every set of the STONES looked at, the most PAIRS with the least differences. */
    private static final class Matcher {
        /** Above what the differences of all PAIRS can come to, so that one PAIR more always counts more. */
        static final int PAIR = 1000000;

        final int[] number = new int[MATCHED_AT_ONCE];
        final int[] grains = new int[MATCHED_AT_ONCE];
        final int[] value = new int[1 << MATCHED_AT_ONCE];
        int many = 0;

        int pairUp(ArrayList<Stone> stones) {
            collect(stones);
            int all = (1 << many) - 1;
            value[0] = 0;
            for (int set = 1; set <= all; set++) {
                value[set] = bestOf(set);
            }
            int pairs = 0;
            int set = all;
            for (int k = 0; k < many && set != 0; k++) {
                int one = lowestBit(set);
                int other = mateIn(set, one);
                set &= ~(1 << one);
                if (other != NONE) {
                    set &= ~(1 << other);
                    join(stones, number[one], number[other]);
                    pairs++;
                }
            }
            return pairs;
        }

        private void collect(ArrayList<Stone> stones) {
            many = 0;
            for (int k = 0; k < stones.size() && many < MATCHED_AT_ONCE; k++) {
                Stone stone = stones.get(k);
                if (stone.polished && stone.mate == NONE && stone.buyer == NONE) {
                    number[many] = k;
                    grains[many] = stone.grains;
                    many++;
                }
            }
        }

        private int bestOf(int set) {
            int one = lowestBit(set);
            int most = value[set & ~(1 << one)];
            for (int other = one + 1; other < many; other++) {
                if (holds(set, other) && isPair(one, other)) {
                    most = Math.max(most, withPair(set, one, other));
                }
            }
            return most;
        }

        /** The least mate with which the whole set still comes to its value; NONE stands behind all. */
        private int mateIn(int set, int one) {
            for (int other = one + 1; other < many; other++) {
                if (holds(set, other) && isPair(one, other) && withPair(set, one, other) == value[set]) {
                    return other;
                }
            }
            return NONE;
        }

        private boolean isPair(int one, int other) {
            return 1000 * apart(one, other) <= 100 * Math.max(grains[one], grains[other]);
        }

        private int withPair(int set, int one, int other) {
            return value[set & ~(1 << one | 1 << other)] + PAIR - apart(one, other);
        }

        private int apart(int one, int other) {
            return Math.abs(grains[one] - grains[other]);
        }

        private static void join(ArrayList<Stone> stones, int one, int other) {
            if (one < stones.size() && other < stones.size()) {
                stones.get(one).mate = other;
                stones.get(other).mate = one;
            }
        }
    }

    /** LOTS with their sealed BIDS, and who gets which. */
    private static final class Auction {
        final int[] bids = new int[MOST_LOTS * BIDDERS];
        final int[] limit = {MOST_LOTS, MOST_LOTS, MOST_LOTS, MOST_LOTS};
        final int[] taken = new int[BIDDERS];
        final int[] given = new int[MOST_LOTS];
        final int[] winners = new int[MOST_LOTS];

        /** What the LOTS from one on could bring if no BIDDER had a limit. */
        final int[] hope = new int[MOST_LOTS + 1];
        int lots = 0;
        int most = 0;

        boolean seal(int bidder, int lot, int price) {
            int at = lot * BIDDERS + bidder;
            if (bids[at] != 0) {
                return false;
            }
            bids[at] = price;
            return true;
        }

        int giveAll() {
            most = NONE;
            hope[lots] = 0;
            for (int lot = lots - 1; lot >= 0; lot--) {
                hope[lot] = hope[lot + 1] + greatestBid(lot);
            }
            give(0, 0);
            return most;
        }

        private int greatestBid(int lot) {
            int greatest = 0;
            for (int bidder = 0; bidder < BIDDERS; bidder++) {
                greatest = Math.max(greatest, bids[lot * BIDDERS + bidder]);
            }
            return greatest;
        }

        /** Goes through the ways in the document's order, so only one that brings more takes the place. */
        private void give(int lot, int sum) {
            if (lot > lots || lot > MOST_LOTS || sum + hope[lot] <= most) {
                return;
            }
            if (lot == lots) {
                most = sum;
                System.arraycopy(given, 0, winners, 0, lots);
                return;
            }
            for (int bidder = 0; bidder < BIDDERS; bidder++) {
                int bid = bids[lot * BIDDERS + bidder];
                if (bid > 0 && taken[bidder] < limit[bidder]) {
                    taken[bidder]++;
                    given[lot] = bidder;
                    give(lot + 1, sum + bid);
                    taken[bidder]--;
                }
            }
            given[lot] = NONE;
            give(lot + 1, sum);
        }

        int winnerOf(int lot) {
            return lot >= 0 && lot < lots ? winners[lot] : NONE;
        }

        void clear() {
            lots = 0;
            for (int k = 0; k < MOST_LOTS * BIDDERS; k++) {
                bids[k] = 0;
            }
        }
    }
}

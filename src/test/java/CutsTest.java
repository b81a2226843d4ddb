/** Promises 7, 8 and 10 to 13: price, worth, best, sawn, cut, done. */
public final class CutsTest {
    private static final String CELL = "1x1@0,0";
    private static final int[] NO_SUCH_CUT = {-1, -1, -1, -1000, -1000, -1000, -1};

    public static void main(String[] args) throws Exception {
        Sentences doc = new Sentences(args);
        priceTerms(doc);
        cutTerms(doc);
        sawingTerms(doc);
        pricePromises(doc);
        cutPromises(doc);
        doc.end();
    }

    private static void priceTerms(Sentences doc) {
        int in = Sentences.TERMS;
        doc.takeTerms("PRICES: steps", "==== 2.");
        doc.holds(in, "PRICES: steps of a least WEIGHT and a price for each CELL;", CutsTest::priceOfEachCell);
        doc.holds(in, "10 at most.", CutsTest::tenSteps);
        doc.holds(in, "WORTH of a WEIGHT: times the price of the step with the greatest least WEIGHT "
                + "that is not above it", CutsTest::greatestStep);
        doc.holds(in, "(0 without).", CutsTest::noStepBelow);
    }

    private static void cutTerms(Sentences doc) {
        int in = Sentences.TERMS;
        doc.takeTerms("CUT of a part", "==== 3.");
        doc.holds(in, "CUT of a part of a ROUGH (CELLS from x, y or z on, up to another one): "
                + "of all that FIT within it", CutsTest::withinThePart);
        doc.holds(in, "the one of the greatest WORTH,", CutsTest::greatestWorth);
        doc.holds(in, "1 at least;", CutsTest::worthOfOne);
        doc.holds(in, "of these the least MODEL,", CutsTest::leastModel);
        doc.holds(in, "then the greatest SIZE,", CutsTest::greatestSize);
        doc.holds(in, "then the least WAY,", CutsTest::leastWay);
        doc.holds(in, "then the least c, b, a of its MOVE.", CutsTest::leastMove);
    }

    private static void sawingTerms(Sentences doc) {
        int in = Sentences.TERMS;
        doc.holds(in, "SAWN in two by an axis (0 x, 1 y, 2 z) at 1 to 4:", CutsTest::eachSawing);
        doc.holds(in, "CELLS with that number are lost,", CutsTest::sawnCellsAreLost);
        doc.holds(in, "the lower ones and the higher ones are two parts: the CUTS of both together.",
                CutsTest::bothParts);
        doc.holds(in, "BEST: the CUT of the whole, or one SAWN: of the greatest WORTH together;",
                CutsTest::greatestTogether);
        doc.holds(in, "of these whole ahead of SAWN,", CutsTest::wholeFirst);
        doc.holds(in, "then the least axis,", CutsTest::leastAxis);
        doc.holds(in, "the least number.", CutsTest::leastNumber);
        doc.holds(in, "DONE: BEST makes STONES of its CUTS (that of the lower part first),", CutsTest::lowerFirst);
        doc.holds(in, "of 1,000 grains for each CELL;", CutsTest::grains);
        doc.holds(in, "the ROUGH is void then.", CutsTest::voidThen);
    }

    private static void pricePromises(Sentences doc) {
        doc.takePromises(7, 8);
        doc.holds(7, "A step of PRICES: how many there are;", CutsTest::stepsCounted);
        doc.holds(7, "a step of the same least WEIGHT is another one from now on;", CutsTest::sameWeight);
        doc.holds(7, "-1: there are 10.", CutsTest::eleventhStep);
        doc.holds(7, "IllegalArgumentException: the WEIGHT is not 1 to 216,", CutsTest::wrongWeight);
        doc.holds(7, "or the price not 0 to 10,000.", CutsTest::wrongPrice);
        doc.holds(8, "WORTH of a WEIGHT.", CutsTest::worths);
        doc.holds(8, "IllegalArgumentException: it is not 0 to 216.", CutsTest::worthOfNoWeight);
    }

    private static void cutPromises(Sentences doc) {
        doc.takePromises(10, 11, 12, 13);
        doc.holds(10, "WORTH of BEST of a ROUGH together", CutsTest::bestTogether);
        doc.holds(10, "WORTH of BEST of a ROUGH together", CutsTest::changesShow);
        doc.holds(10, "(0: nothing can be cut).", CutsTest::nothingToCut);
        doc.holds(11, "Of BEST: 0 the axis (NONE: whole), 1 where it is SAWN (NONE), 2 how many CUTS.",
                CutsTest::sawnTells);
        doc.holds(11, "IllegalArgumentException: another what.", CutsTest::sawnOfAnother);
        doc.holds(12, "Of the k-th CUT of BEST: 0 MODEL, 1 SIZE, 2 WAY, 3 to 5 a, b, c of its MOVE, 6 WEIGHT;",
                CutsTest::cutTells);
        doc.holds(12, "NONE without one (of a MOVE -1,000).", CutsTest::noSuchCut);
        doc.holds(12, "IllegalArgumentException: another what.", CutsTest::cutOfAnother);
        doc.holds(13, "DONE: how many STONES;", CutsTest::stonesCounted);
        doc.holds(13, "-1: there would be more than 40.", CutsTest::fortyStones);
    }

    /** A house with one rough, these models, and steps of prices: weight, price, weight, price... */
    private static RoughStones houseOf(int[] steps, String... texts) {
        RoughStones house = new RoughStones();
        house.rough();
        for (String text : texts) {
            Check.model(house, text);
        }
        for (int k = 0; k + 1 < steps.length; k += 2) {
            house.price(steps[k], steps[k + 1]);
        }
        return house;
    }

    private static int[] steps(int... steps) {
        return steps;
    }

    /** Tells a row of cells of rough 0 anew, along an axis, at 0 of the others: bit k for the k-th; no others. */
    private static void scanRow(RoughStones house, int axis, int bits) {
        scanRowAt(house, axis, bits, 0);
    }

    /** The same, at another number of both the others. */
    private static void scanRowAt(RoughStones house, int axis, int bits, int beside) {
        for (int z = 0; z < 6; z++) {
            long sound = 0;
            for (int k = 0; k < 6; k++) {
                boolean here = (bits >> k & 1) != 0 && (axis == 2 ? k : beside) == z;
                sound |= here ? Check.cell(axis == 0 ? k : beside, axis == 1 ? k : beside) : 0;
            }
            house.scan(0, z, sound, 0);
        }
    }

    private static void cutIs(RoughStones house, int k, int... want) {
        for (int what = 0; what <= 6; what++) {
            Check.due("cut " + k + " what " + what, house.cut(0, k, what), want[what]);
        }
    }

    private static void bestIs(RoughStones house, int worth, int axis, int at, int cuts) {
        Check.due("best", house.best(0), worth);
        Check.due("axis", house.sawn(0, 0), axis);
        Check.due("sawn at", house.sawn(0, 1), at);
        Check.due("cuts", house.sawn(0, 2), cuts);
    }

    private static void priceOfEachCell() {
        RoughStones house = houseOf(steps(1, 3, 100, 10000));
        Check.due("of one", house.worth(1), 3);
        Check.due("of many", house.worth(99), 297);
        Check.due("the price of all cells jumps", house.worth(100), 1000000);
        Check.due("the dearest", house.worth(216), 2160000);
    }

    private static void tenSteps() {
        RoughStones house = new RoughStones();
        for (int k = 1; k <= 12; k++) {
            house.price(k, k);
        }
        Check.due("ten", house.count(5), 10);
        Check.due("the tenth counts", house.worth(10), 100);
        Check.due("the eleventh does not", house.worth(11), 110);
    }

    private static void greatestStep() {
        int[][] orders = {{10, 7, 50, 2, 100, 3}, {100, 3, 10, 7, 50, 2}, {50, 2, 100, 3, 10, 7}};
        for (int[] order : orders) {
            RoughStones house = houseOf(order);
            Check.due("at a step", house.worth(10), 70);
            Check.due("just below the next", house.worth(49), 343);
            Check.due("at the next, though its price is lower", house.worth(50), 100);
            Check.due("just below the last", house.worth(99), 198);
            Check.due("at the last", house.worth(100), 300);
            Check.due("far above it", house.worth(216), 648);
        }
    }

    private static void noStepBelow() {
        RoughStones house = new RoughStones();
        Check.due("no steps", house.worth(1), 0);
        Check.due("no steps, the greatest weight", house.worth(216), 0);
        house.price(216, 9);
        Check.due("just below the only one", house.worth(215), 0);
        Check.due("at it", house.worth(216), 1944);
        house.price(10, 7);
        Check.due("just below the least", house.worth(9), 0);
    }

    /** Two bars in a row need a cell between them; a bar never reaches from one part into the other. */
    private static void withinThePart() {
        String[] bars = {"2x1@0,0", "1x2@0,0", "1x1@0,0;1x1@0,0"};
        for (int axis = 0; axis < 3; axis++) {
            for (String bar : bars) {
                RoughStones house = houseOf(steps(2, 1), bar);
                scanRow(house, axis, 0b001111);
                bestIs(house, 2, -1, -1, 1);
                scanRow(house, axis, 0b011111);
                bestIs(house, 4, axis, 2, 2);
                scanRow(house, axis, 0b111110);
                bestIs(house, 4, axis, 3, 2);
                scanRow(house, axis, 0b110110);
                bestIs(house, 4, axis, 3, 2);
                scanRow(house, axis, 0b111100);
                bestIs(house, 2, -1, -1, 1);
            }
        }
    }

    private static void greatestWorth() {
        RoughStones house = houseOf(steps(1, 10, 8, 1), CELL);
        scanCube(house, 2);
        bestIs(house, 10, -1, -1, 1);
        cutIs(house, 0, 0, 1, 0, 0, 0, 0, 1);
        house.price(8, 2);
        bestIs(house, 16, -1, -1, 1);
        cutIs(house, 0, 0, 2, 0, 0, 0, 0, 8);
        RoughStones models = houseOf(steps(1, 1), CELL, "2x1@0,0", "2x2@0,0");
        scanCube(models, 1);
        Check.due("what fits", models.cut(0, 0, 0), 0);
        scanRow(models, 0, 0b11);
        Check.due("a dearer one", models.cut(0, 0, 0), 1);
        scanCube(models, 2);
        Check.due("a cell of size two", models.cut(0, 0, 0), 0);
        models.scan(0, 1, 0, 0);
        Check.due("the dearest flat one", models.cut(0, 0, 0), 2);
    }

    /** Rough 0 anew: a cube from 0 on. */
    private static void scanCube(RoughStones house, int side) {
        long square = 0;
        for (int k = 0; k < side * side; k++) {
            square |= Check.cell(k % side, k / side);
        }
        for (int z = 0; z < 6; z++) {
            house.scan(0, z, z < side ? square : 0, 0);
        }
    }

    private static void worthOfOne() {
        RoughStones house = houseOf(steps(1, 0), CELL);
        Check.fill(house, 0);
        bestIs(house, 0, -1, -1, 0);
        cutIs(house, 0, NO_SUCH_CUT);
        house.scan(0, 0, 1, 0);
        house.price(1, 1);
        house.price(2, 0);
        for (int z = 1; z < 6; z++) {
            house.scan(0, z, 0, 0);
        }
        bestIs(house, 1, -1, -1, 1);
        cutIs(house, 0, 0, 1, 0, 0, 0, 0, 1);
        house.price(1, 0);
        house.price(2, 5);
        bestIs(house, 0, -1, -1, 0);
    }

    private static void leastModel() {
        int[] same = steps(1, 8, 2, 0, 8, 1, 9, 0);
        RoughStones twice = houseOf(steps(1, 1), CELL, CELL);
        twice.scan(0, 0, 1, 0);
        Check.due("of two that are the same", twice.cut(0, 0, 0), 0);
        RoughStones large = houseOf(same, "2x2@0,0;2x2@0,0", CELL);
        scanCube(large, 2);
        cutIs(large, 0, 0, 1, 0, 0, 0, 0, 8);
        RoughStones small = houseOf(same, CELL, "2x2@0,0;2x2@0,0");
        scanCube(small, 2);
        cutIs(small, 0, 0, 2, 0, 0, 0, 0, 8);
        RoughStones ways = houseOf(steps(2, 1), "1x2@0,0", "2x1@0,0");
        scanRow(ways, 0, 0b11);
        cutIs(ways, 0, 0, 1, 2, 0, 0, 0, 2);
    }

    private static void greatestSize() {
        int[] same = steps(1, 8, 2, 0, 8, 1, 9, 0);
        RoughStones house = houseOf(same, CELL);
        scanCube(house, 2);
        cutIs(house, 0, 0, 2, 0, 0, 0, 0, 8);
        house.scan(0, 0, 0b11000011, 1);
        cutIs(house, 0, 0, 1, 0, 1, 0, 0, 1);
        RoughStones three = houseOf(steps(8, 27, 9, 0, 27, 8, 28, 0), CELL);
        scanCube(three, 3);
        bestIs(three, 216, -1, -1, 1);
        Check.due("three ahead of two", three.cut(0, 0, 1), 3);
        RoughStones parts = houseOf(same, CELL);
        parts.scan(0, 0, Check.cell(0, 0) | Check.cell(5, 5), 0);
        parts.scan(0, 1, Check.FULL, 0);
        parts.scan(0, 2, Check.FULL, 0);
        bestIs(parts, 16, 0, 1, 2);
        cutIs(parts, 0, 0, 1, 0, 0, 0, 0, 1);
        cutIs(parts, 1, 0, 2, 0, 2, 0, 1, 8);
    }

    private static void leastWay() {
        RoughStones house = houseOf(steps(2, 1), "2x1@0,0");
        int[] ways = {0, 2, 3};
        for (int axis = 0; axis < 3; axis++) {
            scanRow(house, axis, 0b11);
            cutIs(house, 0, 0, 1, ways[axis], 0, 0, 0, 2);
        }
        scanRow(house, 0, 0);
        house.scan(0, 0, Check.cell(0, 0) | Check.cell(0, 1) | Check.cell(1, 1), 0);
        cutIs(house, 0, 0, 1, 0, 0, 1, 0, 2);
        house.scan(0, 0, Check.cell(0, 0), 0);
        house.scan(0, 1, Check.cell(0, 0) | Check.cell(0, 1), 0);
        cutIs(house, 0, 0, 1, 2, 0, 0, 1, 2);
    }

    /** Cells that touch by a corner can't be sawn apart, so only their order decides. */
    private static void leastMove() {
        int[][][] pairs = {{{1, 0, 0}, {0, 1, 0}}, {{0, 1, 0}, {0, 0, 1}}, {{1, 0, 0}, {0, 0, 1}},
            {{1, 1, 0}, {0, 0, 1}}, {{0, 0, 0}, {1, 0, 0}}, {{4, 4, 4}, {5, 5, 5}}, {{3, 5, 4}, {4, 4, 5}}};
        for (int[][] pair : pairs) {
            for (String text : new String[] {CELL, "1x1@5,3"}) {
                RoughStones house = houseOf(steps(1, 1), text);
                for (int z = 0; z < 6; z++) {
                    long first = pair[0][2] == z ? Check.cell(pair[0][0], pair[0][1]) : 0;
                    long second = pair[1][2] == z ? Check.cell(pair[1][0], pair[1][1]) : 0;
                    house.scan(0, z, first | second, 0);
                }
                int a = pair[0][0] - (text.equals(CELL) ? 0 : 5);
                int b = pair[0][1] - (text.equals(CELL) ? 0 : 3);
                cutIs(house, 0, 0, 1, 0, a, b, pair[0][2], 1);
            }
        }
        RoughStones large = houseOf(steps(125, 1), "1x1@5,4");
        Check.fill(large, 0);
        large.scan(0, 0, Check.FULL, Check.cell(2, 0));
        cutIs(large, 0, 0, 5, 0, -25, -19, 0, 125);
        large.scan(0, 0, Check.FULL, Check.cell(2, 0) | Check.cell(0, 3));
        cutIs(large, 0, 0, 5, 0, -24, -19, 0, 125);
        large.scan(0, 0, Check.FULL, Check.cell(2, 2));
        cutIs(large, 0, 0, 5, 0, -25, -20, 1, 125);
    }

    private static void eachSawing() {
        for (int axis = 0; axis < 3; axis++) {
            for (int at = 1; at <= 4; at++) {
                for (int beside = 0; beside < 6; beside++) {
                    RoughStones house = houseOf(steps(1, 1), CELL);
                    scanRowAt(house, axis, 1 << at - 1 | 1 << at + 1, beside);
                    bestIs(house, 2, axis, at, 2);
                    int[] want = {0, 1, 0, beside, beside, beside, 1};
                    want[3 + axis] = at - 1;
                    cutIs(house, 0, want);
                    want[3 + axis] = at + 1;
                    cutIs(house, 1, want);
                }
            }
        }
    }

    private static void sawnCellsAreLost() {
        for (int axis = 0; axis < 3; axis++) {
            RoughStones house = houseOf(steps(1, 1), CELL);
            for (int k = 0; k < 5; k++) {
                scanRow(house, axis, 0b11 << k);
                bestIs(house, 1, -1, -1, 1);
            }
            for (int k = 0; k < 4; k++) {
                scanRow(house, axis, 0b111 << k);
                bestIs(house, 2, axis, k + 1, 2);
            }
        }
    }

    private static void bothParts() {
        for (int axis = 0; axis < 3; axis++) {
            RoughStones house = houseOf(steps(1, 1), CELL, "4x1@0,0", "2x1@0,0");
            scanRow(house, axis, 0b101111);
            bestIs(house, 5, axis, 4, 2);
            Check.due("four in the lower", house.cut(0, 0, 0), 1);
            Check.due("one in the higher", house.cut(0, 1, 0), 0);
            Check.due("which lies there", house.cut(0, 1, 3 + axis), 5);
            scanRow(house, axis, 0b111101);
            bestIs(house, 5, axis, 1, 2);
            Check.due("one in the lower", house.cut(0, 0, 0), 0);
            Check.due("four in the higher", house.cut(0, 1, 0), 1);
            Check.due("which lies there", house.cut(0, 1, 3 + axis), 2);
            scanRow(house, axis, 0b011011);
            bestIs(house, 4, axis, 2, 2);
            Check.due("two in the lower", house.cut(0, 0, 6), 2);
            Check.due("two in the higher", house.cut(0, 1, 6), 2);
            Check.due("they begin behind the saw", house.cut(0, 1, 3 + axis), 3);
        }
    }

    private static void greatestTogether() {
        RoughStones house = houseOf(steps(8, 1, 9, 0), CELL);
        Check.fill(house, 0);
        bestIs(house, 16, 0, 2, 2);
        cutIs(house, 0, 0, 2, 0, 0, 0, 0, 8);
        cutIs(house, 1, 0, 2, 0, 3, 0, 0, 8);
        house.price(27, 1);
        house.price(28, 0);
        bestIs(house, 35, 0, 2, 2);
        house.price(216, 1);
        bestIs(house, 216, -1, -1, 1);
        RoughStones far = houseOf(steps(1, 1), CELL, "2x1@0,0");
        scanRow(far, 0, 0b111101);
        bestIs(far, 3, 0, 1, 2);
        far.price(2, 3);
        bestIs(far, 7, 0, 1, 2);
    }

    private static void wholeFirst() {
        for (int axis = 0; axis < 3; axis++) {
            RoughStones house = houseOf(steps(1, 1), CELL, "2x1@0,0");
            scanRow(house, axis, 0b111);
            bestIs(house, 2, -1, -1, 1);
            cutIs(house, 1, NO_SUCH_CUT);
        }
        RoughStones full = houseOf(steps(1, 2, 2, 0, 8, 1, 9, 0, 216, 1), CELL);
        Check.fill(full, 0);
        bestIs(full, 216, -1, -1, 1);
    }

    private static void leastAxis() {
        RoughStones house = houseOf(steps(1, 1, 2, 0), CELL);
        house.scan(0, 0, Check.cell(0, 0), 0);
        house.scan(0, 2, Check.cell(0, 2), 0);
        bestIs(house, 2, 1, 1, 2);
        house.scan(0, 2, Check.cell(2, 0), 0);
        bestIs(house, 2, 0, 1, 2);
        house.scan(0, 2, Check.cell(1, 1), 0);
        bestIs(house, 2, 2, 1, 2);
        house.scan(0, 2, 0, 0);
        house.scan(0, 0, Check.cell(0, 0) | Check.cell(5, 2), 0);
        bestIs(house, 2, 0, 1, 2);
        house.scan(0, 0, Check.cell(3, 0) | Check.cell(5, 2), 0);
        bestIs(house, 2, 0, 4, 2);
    }

    private static void leastNumber() {
        for (int axis = 0; axis < 3; axis++) {
            RoughStones house = houseOf(steps(1, 1, 2, 0), CELL);
            for (int from = 0; from < 4; from++) {
                scanRow(house, axis, 1 << from | 1 << 5);
                bestIs(house, 2, axis, from + 1, 2);
            }
            scanRow(house, axis, 0b111111);
            bestIs(house, 2, axis, 1, 2);
        }
    }

    private static void lowerFirst() {
        for (int axis = 0; axis < 3; axis++) {
            for (int bits : new int[] {0b101111, 0b111101}) {
                RoughStones house = houseOf(steps(1, 1), CELL, "4x1@0,0");
                scanRow(house, axis, bits);
                Check.due("two", house.done(0), 2);
                boolean heavyFirst = bits == 0b101111;
                Check.due("the lower", house.told(0, 0), heavyFirst ? 4000 : 1000);
                Check.due("its model", house.told(0, 2), heavyFirst ? 1 : 0);
                Check.due("the higher", house.told(1, 0), heavyFirst ? 1000 : 4000);
                Check.due("its model", house.told(1, 2), heavyFirst ? 0 : 1);
            }
        }
    }

    private static void grains() {
        RoughStones house = houseOf(steps(1, 1), CELL);
        for (int side = 1; side <= 6; side++) {
            house.price(2, side == 1 ? 0 : 1);
            scanCube(house, side);
            house.price(1, side == 1 ? 1 : 0);
            Check.due("one", house.done(0), 1);
            Check.due("grains of " + side, house.told(side - 1, 0), 1000 * side * side * side);
        }
    }

    private static void voidThen() {
        RoughStones house = houseOf(steps(1, 1), CELL);
        house.rough();
        Check.fill(house, 0);
        house.scan(1, 3, 0b11, 0);
        house.scan(0, 5, Check.FULL, 0b1);
        house.done(0);
        Check.due("what was not cut is gone too", house.stuff(0), 0);
        bestIs(house, 0, -1, -1, 0);
        Check.due("nothing fits", house.fit(0, 0, 0), 0);
        Check.due("the other rough stays", house.stuff(1), 2);
        Check.due("it may be told anew", house.scan(0, 0, 0b1, 0), 1);
        Check.due("and cut again", house.done(0), 1);
        house.price(1, 0);
        house.scan(0, 0, 0b1, 0);
        Check.due("nothing of worth", house.done(0), 0);
        Check.due("void all the same", house.stuff(0), 0);
    }

    private static void stepsCounted() {
        RoughStones house = new RoughStones();
        for (int k = 1; k <= 10; k++) {
            Check.due("step", house.price(217 - 20 * k, k), k);
            Check.due("steps", house.count(5), k);
        }
    }

    private static void sameWeight() {
        RoughStones house = houseOf(steps(5, 7, 10, 9));
        Check.due("the same weight", house.price(5, 3), 2);
        Check.due("another price", house.worth(5), 15);
        Check.due("the other step stays", house.worth(10), 90);
        Check.due("none", house.price(10, 0), 2);
        Check.due("is a step too", house.worth(10), 0);
        for (int k = 3; k <= 10; k++) {
            house.price(100 + k, 1);
        }
        Check.due("with ten of them", house.price(10, 4), 10);
        Check.due("worth", house.worth(10), 40);
    }

    private static void eleventhStep() {
        RoughStones house = new RoughStones();
        for (int k = 1; k <= 9; k++) {
            house.price(20 * k, k);
        }
        Check.due("the tenth", house.price(200, 10), 10);
        Check.due("an eleventh, below", house.price(1, 1), -1);
        Check.due("an eleventh, above", house.price(216, 1), -1);
        Check.due("an eleventh, between", house.price(21, 1), -1);
        Check.due("ten", house.count(5), 10);
        Check.due("nothing below", house.worth(19), 0);
        Check.due("nothing between", house.worth(21), 21);
        Check.due("nothing above", house.worth(216), 2160);
        Check.dueThrow("a wrong weight comes ahead", Check.ARGUMENT, () -> house.price(0, 1));
        Check.dueThrow("a wrong price comes ahead", Check.ARGUMENT, () -> house.price(1, -1));
    }

    private static void wrongWeight() {
        RoughStones house = new RoughStones();
        Check.dueThrows("weight", Check.ARGUMENT, weight -> house.price(weight, 1), Check.outside(217));
        Check.dueThrow("weight 0", Check.ARGUMENT, () -> house.price(0, 1));
        Check.due("no step", house.count(5), 0);
        Check.due("the least", house.price(1, 1), 1);
        Check.due("the greatest", house.price(216, 1), 2);
    }

    private static void wrongPrice() {
        RoughStones house = houseOf(steps(1, 5));
        Check.dueThrows("price", Check.ARGUMENT, price -> house.price(1, price), Check.outside(10001));
        Check.due("the step stays", house.worth(1), 5);
        Check.due("the least", house.price(1, 0), 1);
        Check.due("of no worth", house.worth(216), 0);
        Check.due("the greatest", house.price(1, 10000), 1);
        Check.due("of great worth", house.worth(1), 10000);
    }

    private static void worths() {
        RoughStones house = houseOf(steps(1, 2, 216, 3));
        Check.due("of nothing", house.worth(0), 0);
        Check.due("of one", house.worth(1), 2);
        Check.due("of all but one", house.worth(215), 430);
        Check.due("of all", house.worth(216), 648);
    }

    private static void worthOfNoWeight() {
        RoughStones house = houseOf(steps(1, 2));
        Check.dueThrows("worth", Check.ARGUMENT, house::worth, Check.outside(217));
        Check.due("the least", house.worth(0), 0);
        Check.due("the greatest", house.worth(216), 432);
    }

    private static void bestTogether() {
        RoughStones house = houseOf(steps(1, 10000), CELL);
        house.rough();
        house.scan(0, 0, 1, 0);
        Check.due("one", house.best(0), 10000);
        scanRow(house, 0, 0b101);
        Check.due("two together", house.best(0), 20000);
        Check.fill(house, 0);
        Check.due("the most there can be", house.best(0), 2160000);
        Check.due("asked again", house.best(0), 2160000);
        Check.due("of the other rough", house.best(1), 0);
    }

    /** What was found once is found anew after each thing that may change it. */
    private static void changesShow() {
        RoughStones house = Check.cubeHouse();
        house.rough();
        house.scan(0, 0, 0b11, 0);
        Check.due("a cell", house.best(0), 1);
        Check.due("the other rough", house.best(1), 0);
        Check.model(house, "2x1@0,0");
        Check.due("after a model", house.best(0), 2);
        house.price(2, 9);
        Check.due("after a price", house.best(0), 18);
        house.price(2, 0);
        Check.due("after a price of the same weight", house.best(0), 1);
        house.scan(0, 0, 0, 0);
        Check.due("after a scan", house.best(0), 0);
        house.scan(0, 0, 1, 0);
        Check.due("after another scan", house.best(0), 1);
        house.done(0);
        Check.due("after it was cut", house.best(0), 0);
    }

    private static void nothingToCut() {
        RoughStones house = houseOf(steps());
        Check.fill(house, 0);
        Check.due("no model, no price", house.best(0), 0);
        house.price(1, 5);
        Check.due("no model", house.best(0), 0);
        RoughStones free = houseOf(steps(), CELL);
        Check.fill(free, 0);
        Check.due("no price", free.best(0), 0);
        free.price(1, 0);
        Check.due("a price of nothing", free.best(0), 0);
        RoughStones flawed = houseOf(steps(1, 1), CELL);
        Check.due("a void rough", flawed.best(0), 0);
        flawed.scan(0, 0, Check.FULL, Check.FULL);
        Check.due("all flawed", flawed.best(0), 0);
        RoughStones large = houseOf(steps(1, 1), "2x1@0,0");
        large.scan(0, 0, 1, 0);
        Check.due("a model that is too large", large.best(0), 0);
    }

    private static void sawnTells() {
        RoughStones house = houseOf(steps(1, 1), CELL);
        bestIs(house, 0, -1, -1, 0);
        house.scan(0, 0, 1, 0);
        bestIs(house, 1, -1, -1, 1);
        scanRow(house, 2, 0b101000);
        bestIs(house, 2, 2, 4, 2);
    }

    private static void sawnOfAnother() {
        RoughStones house = Check.cubeHouse();
        Check.dueThrows("of nothing", Check.ARGUMENT, what -> house.sawn(0, what), Check.outside(3));
        house.scan(0, 0, 0b101, 0);
        Check.dueThrows("of two", Check.ARGUMENT, what -> house.sawn(0, what), Check.outside(3));
    }

    private static void cutTells() {
        RoughStones house = houseOf(steps(1, 1), CELL, "1x2@5,3;1x1@5,4");
        house.scan(0, 0, Check.cell(0, 0), 0);
        house.scan(0, 2, Check.cell(2, 1) | Check.cell(2, 2), 0);
        house.scan(0, 3, Check.cell(2, 2), 0);
        bestIs(house, 4, 0, 1, 2);
        cutIs(house, 0, 0, 1, 0, 0, 0, 0, 1);
        cutIs(house, 1, 1, 1, 0, -3, -2, 2, 3);
        house.scan(0, 2, 0, 0);
        house.scan(0, 3, 0, 0);
        cutIs(house, 0, 0, 1, 0, 0, 0, 0, 1);
    }

    private static void noSuchCut() {
        RoughStones house = Check.cubeHouse();
        noneOutside(house, 0);
        house.scan(0, 0, 1, 0);
        noneOutside(house, 1);
        house.scan(0, 0, 0b101, 0);
        noneOutside(house, 2);
        house.scan(0, 0, 1, 0);
        noneOutside(house, 1);
        house.scan(0, 0, 0, 0);
        noneOutside(house, 0);
    }

    private static void noneOutside(RoughStones house, int cuts) {
        for (int k : Check.outside(cuts)) {
            cutIs(house, k, NO_SUCH_CUT);
        }
    }

    private static void cutOfAnother() {
        RoughStones house = Check.cubeHouse();
        Check.dueThrows("of nothing", Check.ARGUMENT, what -> house.cut(0, 0, what), Check.outside(7));
        house.scan(0, 0, 1, 0);
        Check.dueThrows("of one", Check.ARGUMENT, what -> house.cut(0, 0, what), Check.outside(7));
        Check.dueThrows("of none", Check.ARGUMENT, what -> house.cut(0, -1, what), Check.outside(7));
    }

    private static void stonesCounted() {
        RoughStones house = houseOf(steps(1, 1), CELL);
        house.rough();
        Check.due("none of a void rough", house.done(0), 0);
        Check.due("no stone", house.count(2), 0);
        house.scan(1, 0, 1, 0);
        Check.due("one", house.done(1), 1);
        house.scan(0, 0, 0b101, 0);
        Check.due("two", house.done(0), 2);
        Check.due("three in all", house.count(2), 3);
        Check.due("the first one's rough", house.told(0, 1), 1);
        Check.due("the last one's rough", house.told(2, 1), 0);
        Check.due("nothing is left", house.done(0), 0);
    }

    private static void fortyStones() {
        RoughStones house = Check.cubeHouse();
        for (int k = 0; k < 39; k++) {
            Check.due("stone", Check.stone(house, 1), k);
        }
        house.scan(0, 0, 0b101, 0);
        Check.due("two more than 39", house.done(0), -1);
        Check.due("the rough stays", house.stuff(0), 2);
        Check.due("its best too", house.best(0), 2);
        Check.due("no stone has come", house.count(2), 39);
        house.scan(0, 0, 1, 0);
        Check.due("the 40th", house.done(0), 1);
        Check.due("forty", house.count(2), 40);
        house.scan(0, 0, 1, 0);
        Check.due("a 41st", house.done(0), -1);
        Check.due("the rough stays", house.stuff(0), 1);
        house.scan(0, 0, 0, 0);
        Check.due("none is not one more", house.done(0), 0);
        Check.due("the last one", house.told(39, 0), 1000);
        RoughStones even = Check.cubeHouse();
        for (int k = 0; k < 38; k++) {
            Check.stone(even, 1);
        }
        even.scan(0, 0, 0b101, 0);
        Check.due("two more than 38", even.done(0), 2);
        Check.due("forty", even.count(2), 40);
    }
}

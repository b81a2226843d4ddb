/** Promises 5, 6 and 9: feed, model, fit. */
public final class ModelsTest {
    private static final String CELL = "1x1@0,0";
    private static final String SIX_LAYERS = "1x1@0,0;1x1@0,0;1x1@0,0;1x1@0,0;1x1@0,0;1x1@0,0";

    /** No way lays it like another one. */
    private static final String CROOKED = "3x1@1,2;1x2@1,2";
    private static final int[][] CROOKED_CELLS = {{1, 2, 0}, {2, 2, 0}, {3, 2, 0}, {1, 2, 1}, {1, 3, 1}};

    public static void main(String[] args) throws Exception {
        Sentences doc = new Sentences(args);
        texts(doc);
        places(doc);
        laying(doc);
        promises(doc);
        doc.end();
    }

    private static void texts(Sentences doc) {
        int in = Sentences.TERMS;
        doc.takeTerms("MODELS, numbered", "PRICES: steps");
        doc.holds(in, "MODELS, numbered from 0 on, 6 at most,", ModelsTest::sixModels);
        doc.holds(in, "are texts: LAYER { \";\" LAYER };", ModelsTest::layersOfText);
        doc.holds(in, "LAYER: W \"x\" D \"@\" X \",\" Y.", ModelsTest::signs);
        doc.holds(in, "W, D: one digit 1 to 6,", ModelsTest::widths);
        doc.holds(in, "X, Y: one digit 0 to 5", ModelsTest::corners);
        doc.holds(in, "(one more can't stand there);", ModelsTest::secondDigits);
        doc.holds(in, "blanks (byte 32) may stand ahead of all these,", ModelsTest::blanksAhead);
        doc.holds(in, "and at the end;", ModelsTest::blanksAtTheEnd);
        doc.holds(in, "X and W, and Y and D, come to 6 at most;", ModelsTest::sums);
        doc.holds(in, "at most 6 LAYERS.", ModelsTest::sixLayers);
        doc.holds(in, "LAYER z of the MODEL has the CELLS", ModelsTest::layersUp);
        doc.holds(in, "LAYER z of the MODEL has the CELLS", ModelsTest::layersOfTextsBefore);
        doc.holds(in, "with x from X on, W of them, y from Y on, D of them.", ModelsTest::cellsOfLayer);
    }

    private static void places(Sentences doc) {
        int in = Sentences.TERMS;
        doc.holds(in, "A text that is none has a PLACE: that of the first byte that can't stand there",
                ModelsTest::firstWrongByte);
        doc.holds(in, "(a digit that is none such,", ModelsTest::wrongDigits);
        doc.holds(in, "an X or Y with which the sum would be above 6: its byte;", ModelsTest::placeOfSum);
        doc.holds(in, "the \";\" ahead of a 7th LAYER;", ModelsTest::seventhLayer);
        doc.holds(in, "the end: its length).", ModelsTest::endOfText);
    }

    private static void laying(Sentences doc) {
        int in = Sentences.TERMS;
        doc.holds(in, "WAYS 0 to 5: a MODEL's CELL (x, y, z) lies at (x, y, z), (x, z, y), (y, x, z), (y, z, x), "
                + "(z, x, y), (z, y, x).", ModelsTest::eachWay);
        doc.holds(in, "SIZE k (1 to 6): each CELL is a block of k by k by k,", ModelsTest::eachSize);
        doc.holds(in, "at k times its place.", ModelsTest::blocksApart);
        doc.holds(in, "MOVED by (a, b, c): any whole numbers, added to x, y, z.", ModelsTest::eachMove);
        doc.holds(in, "A MODEL FITS a ROUGH, if all its CELLS so laid are SOUND CELLS of it.", ModelsTest::allSound);
        doc.holds(in, "A MODEL FITS a ROUGH, if all its CELLS so laid are SOUND CELLS of it.", ModelsTest::noWrap);
        doc.holds(in, "WEIGHT: how many CELLS.", ModelsTest::weights);
    }

    private static void promises(Sentences doc) {
        doc.takePromises(5, 6, 9);
        doc.holds(5, "Twenty bytes come on the TAPE,", ModelsTest::twentyBytes);
        doc.holds(5, "of each number the highest first:", ModelsTest::highestFirst);
        doc.holds(5, "how many there are;", ModelsTest::bytesCounted);
        doc.holds(5, "NONE, doing nothing, if there would be more than 100.", ModelsTest::fullTape);
        doc.holds(6, "The first n bytes of the TAPE", ModelsTest::firstBytes);
        doc.holds(6, "(empty then)", ModelsTest::emptyThen);
        doc.holds(6, "are a MODEL: its number;", ModelsTest::modelNumbers);
        doc.holds(6, "or -2 less its PLACE.", ModelsTest::lessPlace);
        doc.holds(6, "IllegalArgumentException: n is not 0 to the TAPE's bytes;", ModelsTest::wrongLength);
        doc.holds(6, "IllegalStateException: there are 6.", ModelsTest::seventhModel);
        doc.holds(9, "The greatest SIZE at which a MODEL FITS a ROUGH in a WAY;", ModelsTest::greatestSize);
        doc.holds(9, "The greatest SIZE at which a MODEL FITS a ROUGH in a WAY;", ModelsTest::greatestOfEachShape);
        doc.holds(9, "The greatest SIZE at which a MODEL FITS a ROUGH in a WAY;", ModelsTest::lesserSizeDoesNotFit);
        doc.holds(9, "0: at none.", ModelsTest::fitsAtNone);
        doc.holds(9, "NoSuchElementException: no such MODEL (so below);", ModelsTest::noModel);
        doc.holds(9, "IllegalArgumentException: no such WAY.", ModelsTest::noWay);
    }

    private static void good(String text) {
        RoughStones house = new RoughStones();
        Check.due("text '" + text + "'", Check.model(house, text), 0);
        Check.due("a model of '" + text + "'", house.count(1), 1);
        Check.due("tape behind '" + text + "'", house.count(6), 0);
    }

    private static void place(String text, int place) {
        RoughStones house = new RoughStones();
        Check.due("text '" + text + "'", Check.model(house, text), -2 - place);
        Check.due("no model of '" + text + "'", house.count(1), 0);
        Check.due("tape behind '" + text + "'", house.count(6), 0);
    }

    private static RoughStones houseOf(String... texts) {
        RoughStones house = new RoughStones();
        house.rough();
        for (String text : texts) {
            Check.model(house, text);
        }
        return house;
    }

    /** Tells rough 0 of a house anew: these cells (x, y, z) are sound and no others. */
    private static void scanCells(RoughStones house, int[][] cells) {
        for (int z = 0; z < 6; z++) {
            long sound = 0;
            for (int[] cell : cells) {
                sound |= cell[2] == z ? Check.cell(cell[0], cell[1]) : 0;
            }
            house.scan(0, z, sound, 0);
        }
    }

    private static void sixModels() {
        RoughStones house = houseOf(CELL, "2x2@0,0", "3x3@0,0", "4x4@0,0", "5x5@0,0", "6x6@0,0");
        Check.due("six", house.count(1), 6);
        Check.fill(house, 0);
        int[] greatest = {6, 3, 2, 1, 1, 1};
        for (int k = 0; k < 6; k++) {
            Check.due("model " + k + " is its own", house.fit(0, k, 0), greatest[k]);
        }
    }

    private static void layersOfText() {
        good(CELL);
        good("1x1@0,0;2x2@0,0");
        good(SIX_LAYERS);
        place(";" + CELL, 0);
        place(CELL + CELL, 7);
        place(CELL + "," + CELL, 7);
        place(CELL + ";;" + CELL, 8);
        place("", 0);
    }

    private static void signs() {
        good("2x3@4,3");
        place("2X3@4,3", 1);
        place("2*3@4,3", 1);
        place("23@4,3", 1);
        place("2x3x4,3", 3);
        place("2x3a4,3", 3);
        place("2x34,3", 3);
        place("2x3@4;3", 5);
        place("2x3@4.3", 5);
        place("2x3@43", 5);
    }

    private static void widths() {
        for (int digit = 0; digit <= 9; digit++) {
            boolean known = digit >= 1 && digit <= 6;
            tell(known, digit + "x1@0,0", 0);
            tell(known, "1x" + digit + "@0,0", 2);
            tell(known, CELL + ";" + digit + "x1@0,0", 8);
            tell(known, CELL + ";1x" + digit + "@0,0", 10);
        }
    }

    private static void tell(boolean known, String text, int place) {
        if (known) {
            good(text);
        } else {
            place(text, place);
        }
    }

    private static void corners() {
        for (int digit = 0; digit <= 9; digit++) {
            tell(digit <= 5, "1x1@" + digit + ",0", 4);
            tell(digit <= 5, "1x1@0," + digit, 6);
            tell(digit <= 5, CELL + ";1x1@" + digit + ",5", 12);
            tell(digit <= 5, CELL + ";1x1@5," + digit, 14);
        }
    }

    private static void secondDigits() {
        for (int digit = 0; digit <= 9; digit++) {
            place("1" + digit + "x1@0,0", 1);
            place("1x1" + digit + "@0,0", 3);
            place("1x1@0" + digit + ",0", 5);
            place("1x1@0,0" + digit, 7);
            place("1x1@0,0 " + digit, 8);
            place("1x1@0,0" + digit + ";" + CELL, 7);
        }
        place("01x1@0,0", 0);
    }

    private static void blanksAhead() {
        String signs = "1x1@0,0;1x1@0,0";
        for (int k = 0; k < signs.length(); k++) {
            good(signs.substring(0, k) + " " + signs.substring(k));
            good(signs.substring(0, k) + "     " + signs.substring(k));
        }
        good(" 2 x 3 @ 4 , 3 ; 1 x 1 @ 0 , 0 ");
        place("1x1\t@0,0", 3);
        place("1x1@0," + (char) 0 + "0", 6);
        place((char) 160 + CELL, 0);
        place("  7x1@0,0", 2);
    }

    private static void blanksAtTheEnd() {
        good(CELL + " ");
        good(SIX_LAYERS + "  ");
        good(CELL + " ".repeat(93));
        place(CELL + "\t", 7);
        place(CELL + "\n", 7);
        place(CELL + " x", 8);
        place(CELL + (char) 0, 7);
        place(CELL + " ".repeat(92) + ".", 99);
    }

    private static void sums() {
        for (int wide = 1; wide <= 6; wide++) {
            for (int from = 0; from <= 5; from++) {
                boolean known = wide + from <= 6;
                tell(known, wide + "x1@" + from + ",0", 4);
                tell(known, "1x" + wide + "@5," + from, 6);
                tell(known, wide + "x6@ " + from + ",0", 5);
            }
        }
    }

    private static void sixLayers() {
        StringBuilder text = new StringBuilder(CELL);
        for (int layers = 1; layers <= 6; layers++) {
            good(text.toString());
            RoughStones house = houseOf(text.toString());
            Check.fill(house, 0);
            Check.due("of " + layers + " layers", house.fit(0, 0, 0), 6 / layers);
            text.append(";").append(CELL);
        }
        place(text.toString(), 47);
    }

    /** Six layers, one of them all over, can only lie where they are; so each cell of them is needed. */
    private static void layersUp() {
        String text = "2x3@4,3;1x1@0,0;6x6@0,0;3x2@1,4;1x6@5,0;6x1@0,5";
        int[][] layers = {{2, 3, 4, 3}, {1, 1, 0, 0}, {6, 6, 0, 0}, {3, 2, 1, 4}, {1, 6, 5, 0}, {6, 1, 0, 5}};
        RoughStones house = houseOf(text);
        long[] sound = new long[6];
        for (int z = 0; z < 6; z++) {
            sound[z] = block(layers[z]);
            house.scan(0, z, sound[z], 0);
        }
        house.price(1, 1);
        Check.due("its cells are enough", house.fit(0, 0, 0), 1);
        Check.due("all its cells", house.best(0), 61);
        for (int z = 0; z < 6; z++) {
            for (int bit = 0; bit < 36; bit++) {
                if ((sound[z] >>> bit & 1) != 0) {
                    house.scan(0, z, sound[z], 1L << bit);
                    Check.due("without " + bit + " of " + z, house.fit(0, 0, 0), 0);
                }
            }
            house.scan(0, z, sound[z], 0);
        }
    }

    /** Layers of a longer text that was read before, as a model or in vain, are none of the next one's. */
    private static void layersOfTextsBefore() {
        String all = "6x6@0,0;6x6@0,0;6x6@0,0;6x6@0,0;6x6@0,0;6x6@0,0";
        RoughStones house = houseOf(all, CELL, all + ";", "2x1@0,0");
        house.scan(0, 5, 0b11L << 34, 0);
        for (int way = 0; way < 6; way++) {
            Check.due("all, way " + way, house.fit(0, 0, way), 0);
            Check.due("a cell, way " + way, house.fit(0, 1, way), 1);
            Check.due("two cells, way " + way, house.fit(0, 2, way), way < 2 ? 1 : 0);
        }
        Check.fill(house, 0);
        for (int way = 0; way < 6; way++) {
            Check.due("a cell in all, way " + way, house.fit(0, 1, way), 6);
            Check.due("two cells in all, way " + way, house.fit(0, 2, way), 3);
        }
    }

    /** A layer's cells, of W, D, X, Y. */
    private static long block(int... layer) {
        long bits = 0;
        for (int y = layer[3]; y < layer[3] + layer[1]; y++) {
            for (int x = layer[2]; x < layer[2] + layer[0]; x++) {
                bits |= Check.cell(x, y);
            }
        }
        return bits;
    }

    private static void cellsOfLayer() {
        for (int wide = 1; wide <= 6; wide++) {
            for (int deep = 1; deep <= 6; deep++) {
                for (int x = 0; x + wide <= 6; x++) {
                    for (int y = 0; y + deep <= 6; y++) {
                        layerLiesAt(wide, deep, x, y);
                    }
                }
            }
        }
    }

    private static void layerLiesAt(int wide, int deep, int x, int y) {
        String text = wide + "x" + deep + "@" + x + "," + y;
        RoughStones house = houseOf(text);
        house.price(1, 1);
        house.scan(0, 0, block(wide, deep, x, y), 0);
        int[] want = {0, 1, 0, 0, 0, 0, wide * deep};
        for (int what = 0; what <= 6; what++) {
            Check.due(text + " " + what, house.cut(0, 0, what), want[what]);
        }
    }

    private static void firstWrongByte() {
        place("x", 0);
        place("7y", 0);
        place("1y7", 1);
        place("1x1@0,0;7x9@9,9", 8);
        place("1x1@0,0;1x1@9,9", 12);
        place("\0", 0);
        place("1x1@-1,0", 4);
        place("1x1@+1,0", 4);
        place((char) ('1' + 128) + "x1@0,0", 0);
        place("1" + (char) ('x' + 128) + "1@0,0", 1);
        place("1x1@0,0" + (char) 255, 7);
    }

    private static void wrongDigits() {
        String[] wrong = {"/", ":", "a", "A", "%", "" + (char) 177};
        for (String sign : wrong) {
            place(sign + "x1@0,0", 0);
            place("1x" + sign + "@0,0", 2);
            place("1x1@" + sign + ",0", 4);
            place("1x1@0," + sign, 6);
        }
        place("0x1@0,0", 0);
        place("1x7@0,0", 2);
        place("1x1@6,0", 4);
        place("1x1@0,6", 6);
        place("1x1@  6,0", 6);
    }

    private static void placeOfSum() {
        place("6x1@1,0", 4);
        place("6x1@5,9", 4);
        place("1x6@0,1", 6);
        place("1x6@0,5;", 6);
        place("3x1@4,0", 4);
        place("3x1@  4,0", 6);
        place("1x3@0,  4", 8);
        place("2x2@5,5", 4);
        good("3x3@3,3");
    }

    private static void seventhLayer() {
        place(SIX_LAYERS + ";", 47);
        place(SIX_LAYERS + ";" + CELL, 47);
        place(SIX_LAYERS + "  ;" + CELL, 49);
        place(SIX_LAYERS + ";x", 47);
        place(SIX_LAYERS + "1", 47);
        good(SIX_LAYERS);
    }

    private static void endOfText() {
        String text = CELL + ";" + CELL;
        for (int length = 0; length < text.length(); length++) {
            if (length != CELL.length()) {
                place(text.substring(0, length), length);
                place(text.substring(0, length) + "   ", length + 3);
            }
        }
        place(SIX_LAYERS.substring(0, 46), 46);
        place(" ".repeat(100), 100);
    }

    /** Where the document lays a cell in each way. */
    private static int[] lies(int[] cell, int way) {
        int x = cell[0];
        int y = cell[1];
        int z = cell[2];
        int[][] ways = {{x, y, z}, {x, z, y}, {y, x, z}, {y, z, x}, {z, x, y}, {z, y, x}};
        return ways[way];
    }

    private static int[][] crookedAt(int way, int size, int a, int b, int c) {
        int many = size * size * size;
        int[][] cells = new int[CROOKED_CELLS.length * many][];
        for (int k = 0; k < cells.length; k++) {
            int[] at = lies(CROOKED_CELLS[k / many], way);
            int inner = k % many;
            cells[k] = new int[] {size * at[0] + inner % size + a, size * at[1] + inner / size % size + b,
                size * at[2] + inner / size / size + c};
        }
        return cells;
    }

    private static void eachWay() {
        RoughStones house = houseOf(CROOKED);
        house.price(1, 1);
        for (int way = 0; way < 6; way++) {
            scanCells(house, crookedAt(way, 1, 0, 0, 0));
            for (int tried = 0; tried < 6; tried++) {
                Check.due("laid in " + way + ", looked for in " + tried, house.fit(0, 0, tried), tried == way ? 1 : 0);
            }
            Check.due("the cut's way", house.cut(0, 0, 2), way);
        }
    }

    private static void eachSize() {
        for (int size = 1; size <= 6; size++) {
            RoughStones house = houseOf("1x1@1,1");
            house.price(1, 1);
            for (int z = 6 - size; z < 6; z++) {
                house.scan(0, z, block(size, size, 0, 6 - size), 0);
            }
            Check.due("a block of " + size, house.fit(0, 0, 0), size);
            int[] want = {0, size, 0, -size, 6 - size - size, 6 - size, size * size * size};
            for (int what = 0; what <= 6; what++) {
                Check.due("cut of size " + size + " " + what, house.cut(0, 0, what), want[what]);
            }
        }
    }

    private static void blocksApart() {
        for (int size = 1; size <= 3; size++) {
            RoughStones house = houseOf("1x1@0,0;1x1@1,1");
            for (int z = 0; z < 2 * size; z++) {
                int from = z < size ? 0 : size;
                house.scan(0, z, block(size, size, from, from), 0);
            }
            Check.due("two blocks of " + size, house.fit(0, 0, 0), size);
            house.scan(0, size, block(size, size, size, size), Check.cell(size, size));
            Check.due("a corner of one lacks", house.fit(0, 0, 0), size == 1 ? 0 : 1);
        }
    }

    private static void eachMove() {
        for (int way = 0; way < 6; way++) {
            int[] least = lies(new int[] {1, 2, 0}, way);
            int[] most = lies(new int[] {3, 3, 1}, way);
            moveIs(way, 2, -2 * least[0], -2 * least[1], -2 * least[2]);
            for (int a = -least[0]; a + most[0] < 6; a++) {
                for (int b = -least[1]; b + most[1] < 6; b++) {
                    for (int c = -least[2]; c + most[2] < 6; c++) {
                        moveIs(way, 1, a, b, c);
                    }
                }
            }
        }
        RoughStones house = houseOf("1x1@5,4");
        house.price(1, 1);
        Check.fill(house, 0);
        Check.due("a of the greatest", house.cut(0, 0, 3), -30);
        Check.due("b of the greatest", house.cut(0, 0, 4), -24);
        Check.due("c of the greatest", house.cut(0, 0, 5), 0);
    }

    private static void moveIs(int way, int size, int a, int b, int c) {
        RoughStones house = houseOf(CROOKED);
        house.price(1, 1);
        scanCells(house, crookedAt(way, size, a, b, c));
        int[] want = {0, size, way, a, b, c, CROOKED_CELLS.length * size * size * size};
        for (int what = 0; what <= 6; what++) {
            Check.due("moved by " + a + " " + b + " " + c + " in " + way + ", " + what, house.cut(0, 0, what),
                    want[what]);
        }
    }

    private static void allSound() {
        RoughStones house = houseOf("3x3@1,1;3x3@1,1;3x3@1,1");
        for (int z = 1; z <= 3; z++) {
            house.scan(0, z, block(3, 3, 2, 1), 0);
        }
        Check.due("all are sound", house.fit(0, 0, 0), 1);
        for (int bit = 0; bit < 36; bit++) {
            house.scan(0, 2, block(3, 3, 2, 1), 1L << bit);
            boolean needed = (block(3, 3, 2, 1) >>> bit & 1) != 0;
            Check.due("bit " + bit + " is flawed", house.fit(0, 0, 0), needed ? 0 : 1);
        }
    }

    /** Bits that follow one another need not be neighbours: the end of a row, of a layer, of the rough. */
    private static void noWrap() {
        RoughStones house = houseOf("2x1@0,0", "1x2@0,0", "1x1@0,0;1x1@0,0", "1x1@0,0;1x1@1,1");
        int[][][] apart = {{{5, 0, 0}, {0, 1, 0}}, {{0, 5, 0}, {0, 0, 1}}, {{5, 5, 0}, {0, 0, 1}},
            {{0, 0, 5}, {0, 0, 0}}, {{0, 0, 0}, {5, 0, 0}}, {{5, 5, 5}, {0, 0, 0}}};
        for (int[][] cells : apart) {
            scanCells(house, cells);
            for (int model = 0; model < 4; model++) {
                for (int way = 0; way < 6; way++) {
                    Check.due("model " + model + " way " + way, house.fit(0, model, way), 0);
                }
            }
        }
    }

    private static void weights() {
        weightIs(CELL, 1, 1);
        weightIs("6x6@0,0;6x6@0,0;6x6@0,0;6x6@0,0;6x6@0,0;6x6@0,0", 1, 216);
        weightIs("1x1@0,0", 6, 216);
        weightIs("2x1@0,0;1x2@0,0;2x2@0,0", 2, 64);
        weightIs("3x2@0,0;1x1@5,5", 1, 7);
    }

    private static void weightIs(String text, int size, int weight) {
        RoughStones house = houseOf(text);
        house.price(weight, 1);
        house.price(weight < 216 ? weight + 1 : 1, 0);
        Check.fill(house, 0);
        Check.due("size of " + text, house.cut(0, 0, 1), size);
        Check.due("weight of " + text, house.cut(0, 0, 6), weight);
    }

    private static void twentyBytes() {
        RoughStones house = new RoughStones();
        Check.due("zeros are bytes too", house.feed(0, 0, 0, 0, 0), 20);
        Check.due("they can't stand in a text", house.model(20), -2);
        house.feed(0x20202020, 0x20202020, 0x20202020, 0x20202020, 0x20202020);
        Check.due("twenty blanks", house.model(20), -22);
        house.feed(0x20202020, 0x20202020, 0x20202020, 0x20202020, 0x20202020);
        house.feed('1' << 24, 0, 0, 0, 0);
        Check.due("the next come behind them", house.model(22), -2 - 21);
    }

    private static void highestFirst() {
        String text = "1x2@3,4;6x6@0,0;5x4@";
        for (int wrong = 0; wrong < 20; wrong++) {
            char[] bytes = text.toCharArray();
            bytes[wrong] = (char) (wrong % 2 == 0 ? 255 : 128);
            RoughStones house = new RoughStones();
            Check.type(house, new String(bytes));
            Check.due("a wrong byte at " + wrong, house.model(20), -2 - wrong);
        }
        RoughStones house = new RoughStones();
        house.feed('1' << 24 | 'x' << 16 | '2' << 8 | '@', '3' << 24 | ',' << 16 | '4' << 8 | ';',
                '6' << 24 | 'x' << 16 | '6' << 8 | '@', '0' << 24 | ',' << 16 | '0' << 8 | ' ', 0x20202020);
        Check.due("by its bytes", house.model(20), 0);
    }

    private static void bytesCounted() {
        RoughStones house = new RoughStones();
        for (int k = 1; k <= 5; k++) {
            Check.due("feed", house.feed(-1, -1, -1, -1, -1), 20 * k);
            Check.due("bytes", house.count(6), 20 * k);
        }
    }

    private static void fullTape() {
        RoughStones house = new RoughStones();
        Check.type(house, " ".repeat(100));
        Check.due("100 bytes are there", house.count(6), 100);
        Check.due("one feed more", house.feed(-1, -1, -1, -1, -1), RoughStones.NONE);
        Check.due("and once more", house.feed(0, 0, 0, 0, 0), RoughStones.NONE);
        Check.due("none of it has come", house.count(6), 100);
        Check.due("the bytes are as before", house.model(100), -102);
        Check.due("there is room again", house.feed(0, 0, 0, 0, 0), 20);
    }

    private static void firstBytes() {
        RoughStones house = new RoughStones();
        Check.type(house, CELL + "x");
        Check.due("the wrong one behind them is not looked at", house.model(7), 0);
        Check.type(house, CELL + "x");
        Check.due("here it is", house.model(8), -9);
        Check.type(house, CELL + ";" + CELL);
        Check.due("a part of a layer", house.model(12), -14);
        Check.type(house, CELL);
        Check.due("none of them", house.model(0), -2);
        Check.type(house, SIX_LAYERS + " ".repeat(53));
        Check.due("all hundred", house.model(100), 1);
        Check.type(house, "1x1@0,              ");
        Check.due("blanks behind them are not of the text", house.model(6), -8);
        Check.type(house, "                    ");
        Check.due("none of the blanks", house.model(0), -2);
        Check.due("what is no more on the tape is not read", house.model(0), -2);
    }

    private static void emptyThen() {
        RoughStones house = new RoughStones();
        Check.type(house, CELL + CELL);
        house.model(7);
        Check.due("what was not read is gone too", house.count(6), 0);
        Check.dueThrow("no byte", Check.ARGUMENT, () -> house.model(1));
        Check.type(house, "no");
        house.model(2);
        Check.due("behind a text that is none", house.count(6), 0);
        Check.type(house, CELL);
        house.model(0);
        Check.due("behind the empty text", house.count(6), 0);
        Check.due("the next feed begins anew", Check.model(house, CELL), 1);
    }

    private static void modelNumbers() {
        RoughStones house = new RoughStones();
        for (int k = 0; k < 6; k++) {
            Check.due("a text that is none takes no number", Check.model(house, "x"), -2);
            Check.due("model", Check.model(house, CELL), k);
            Check.due("models", house.count(1), k + 1);
        }
    }

    private static void lessPlace() {
        for (int blanks = 0; blanks <= 100; blanks++) {
            RoughStones house = new RoughStones();
            Check.type(house, " ".repeat(blanks));
            Check.due(blanks + " blanks", house.model(blanks), -2 - blanks);
        }
    }

    private static void wrongLength() {
        RoughStones house = new RoughStones();
        Check.dueThrows("of an empty tape", Check.ARGUMENT, house::model, Check.outside(1));
        Check.type(house, CELL);
        Check.dueThrows("of twenty bytes", Check.ARGUMENT, house::model, Check.outside(21));
        Check.due("the tape stays", house.count(6), 20);
        Check.due("and its bytes", house.model(7), 0);
        Check.type(house, SIX_LAYERS + " ".repeat(53));
        Check.dueThrows("of a full tape", Check.ARGUMENT, house::model, Check.outside(101));
        Check.due("all of it", house.model(100), 1);
    }

    private static void seventhModel() {
        RoughStones house = houseOf(CELL, CELL, CELL, CELL, CELL);
        Check.due("the sixth", Check.model(house, CELL), 5);
        Check.dueThrow("of nothing", Check.STATE, () -> house.model(0));
        Check.dueThrow("a wrong length comes ahead", Check.ARGUMENT, () -> house.model(1));
        Check.type(house, CELL);
        Check.dueThrow("of a good text", Check.STATE, () -> house.model(7));
        Check.dueThrow("of a text that is none", Check.STATE, () -> house.model(3));
        Check.dueThrows("a wrong length comes ahead", Check.ARGUMENT, house::model, Check.outside(21));
        Check.due("the tape stays", house.count(6), 20);
        Check.due("six", house.count(1), 6);
    }

    private static void greatestSize() {
        RoughStones house = houseOf(CELL, "2x1@0,0;1x1@5,5", "2x2@2,2;1x1@3,3", "3x1@0,0");
        Check.fill(house, 0);
        Check.due("a cell", house.fit(0, 0, 0), 6);
        Check.due("a wide model", house.fit(0, 1, 0), 1);
        Check.due("two by two by two", house.fit(0, 2, 0), 3);
        Check.due("three by one by one", house.fit(0, 3, 0), 2);
        house.scan(0, 2, Check.FULL, 1);
        Check.due("a flaw within the only place", house.fit(0, 2, 0), 2);
        Check.due("a flaw at an edge", house.fit(0, 0, 0), 5);
        for (int z = 0; z < 6; z++) {
            house.scan(0, z, z < 2 ? Check.FULL : 0, 0);
        }
        int[] flat = {2, 2, 2, 0, 2, 0};
        for (int way = 0; way < 6; way++) {
            Check.due("three in a row, two layers, way " + way, house.fit(0, 3, way), flat[way]);
        }
    }

    private static void greatestOfEachShape() {
        for (int shape = 0; shape < 216; shape++) {
            int wide = 1 + shape % 6;
            int deep = 1 + shape / 6 % 6;
            int high = 1 + shape / 36;
            String layer = wide + "x" + deep + "@" + (6 - wide) + "," + (6 - deep);
            RoughStones house = houseOf(layer + (";" + layer).repeat(high - 1));
            Check.fill(house, 0);
            int longest = Math.max(wide, Math.max(deep, high));
            for (int way = 0; way < 6; way++) {
                Check.due(high + " layers of " + layer + ", way " + way, house.fit(0, 0, way), 6 / longest);
            }
        }
    }

    /** Cells two apart: blocks of two lie where single cells so far apart find nothing. */
    private static void lesserSizeDoesNotFit() {
        RoughStones house = houseOf("1x1@0,0;1x1@2,0");
        for (int z = 0; z < 4; z++) {
            house.scan(0, z, block(2, 2, z < 2 ? 0 : 4, 0), 0);
        }
        Check.due("at two, not at one", house.fit(0, 0, 0), 2);
        house.price(1, 1);
        Check.due("the cut too", house.cut(0, 0, 1), 2);
    }

    private static void fitsAtNone() {
        RoughStones house = houseOf(CELL, "2x1@0,0", "6x6@0,0;6x6@0,0;6x6@0,0;6x6@0,0;6x6@0,0;6x6@0,0");
        for (int way = 0; way < 6; way++) {
            Check.due("in a void rough", house.fit(0, 0, way), 0);
        }
        house.scan(0, 5, 1L << 35, 0);
        for (int way = 0; way < 6; way++) {
            Check.due("a cell in one", house.fit(0, 0, way), 1);
            Check.due("two in one", house.fit(0, 1, way), 0);
        }
        Check.fill(house, 0);
        Check.due("all in all", house.fit(0, 2, 3), 1);
        house.scan(0, 3, Check.FULL, 1L << 20);
        Check.due("all in all but one", house.fit(0, 2, 3), 0);
    }

    private static void noModel() {
        RoughStones house = houseOf(CELL, CELL);
        Check.dueThrows("fit", Check.ELEMENT, k -> house.fit(0, k, 0), Check.outside(2));
        Check.dueThrows("ahead of the way", Check.ELEMENT, k -> house.fit(0, k, 6), Check.outside(2));
        Check.dueThrows("behind the rough", Check.INDEX, k -> house.fit(1, k, 0), Check.outside(2));
        RoughStones none = houseOf("x");
        Check.dueThrow("without any", Check.ELEMENT, () -> none.fit(0, 0, 0));
        RoughStones six = houseOf(CELL, CELL, CELL, CELL, CELL, CELL);
        Check.dueThrow("of six", Check.ELEMENT, () -> six.fit(0, 6, 0));
        Check.due("the sixth", six.fit(0, 5, 0), 0);
    }

    private static void noWay() {
        RoughStones house = houseOf(CELL);
        house.scan(0, 0, 1, 0);
        Check.dueThrows("fit", Check.ARGUMENT, way -> house.fit(0, 0, way), Check.outside(6));
        Check.due("the first", house.fit(0, 0, 0), 1);
        Check.due("the last", house.fit(0, 0, 5), 1);
    }
}

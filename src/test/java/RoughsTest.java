/** Promises 1 to 4: a new object, rough, scan, stuff. */
public final class RoughsTest {
    private static final int LAST = 5;

    public static void main(String[] args) throws Exception {
        Sentences doc = new Sentences(args);
        terms(doc);
        promises(doc);
        doc.end();
    }

    private static void terms(Sentences doc) {
        int in = Sentences.TERMS;
        doc.takeTerms("ROUGHS, numbered", "MODELS, numbered");
        doc.holds(in, "ROUGHS, numbered from 0 on, 10 at most,", RoughsTest::tenRoughs);
        doc.holds(in, "have 216 CELLS (x, y, z), 0 to 5 each,", RoughsTest::allCells);
        doc.holds(in, "void at first.", RoughsTest::voidAtFirst);
        doc.holds(in, "A SCAN tells a layer z of a ROUGH:", RoughsTest::oneLayerIsTold);
        doc.holds(in, "which of its CELLS (x + 6 y as bits) are SOUND,", RoughsTest::eachBit);
        doc.holds(in, "and which are FLAWED", RoughsTest::flaws);
        doc.holds(in, "(of those told SOUND; they are not, then).", RoughsTest::flawsOfNothing);
    }

    private static void promises(Sentences doc) {
        doc.takePromises(1, 2, 3, 4);
        doc.holds(1, "Nothing of all this;", RoughsTest::nothingAtFirst);
        doc.holds(1, "Nothing of all this;", RoughsTest::objectsAreApart);
        doc.holds(1, "an empty TAPE.", RoughsTest::emptyTape);
        doc.holds(2, "A ROUGH: its number;", RoughsTest::roughNumbers);
        doc.holds(2, "-1: there are 10.", RoughsTest::eleventhRough);
        doc.holds(3, "A SCAN: how many CELLS of the layer are SOUND.", RoughsTest::scanCounts);
        doc.holds(3, "IndexOutOfBoundsException: no such ROUGH", RoughsTest::scanOfNoRough);
        doc.holds(3, "or layer", RoughsTest::scanOfNoLayer);
        doc.holds(3, "(so below);", RoughsTest::noRoughBelow);
        doc.holds(3, "IllegalArgumentException: bits beyond 36", RoughsTest::bitsBeyond);
        doc.holds(3, "(or below 0).", RoughsTest::bitsBelow);
        doc.holds(4, "SOUND CELLS of a ROUGH.", RoughsTest::stuffOfAll);
    }

    private static RoughStones houseOfRoughs(int roughs) {
        RoughStones house = new RoughStones();
        for (int k = 0; k < roughs; k++) {
            house.rough();
        }
        return house;
    }

    private static void tenRoughs() {
        RoughStones house = houseOfRoughs(12);
        Check.due("ten and no more", house.count(0), 10);
        for (int k = 0; k < 10; k++) {
            Check.due("rough " + k + " is there", house.scan(k, 0, k, 0), Integer.bitCount(k));
        }
    }

    private static void allCells() {
        RoughStones house = houseOfRoughs(1);
        Check.fill(house, 0);
        Check.due("a full rough", house.stuff(0), 216);
        for (int corner = 0; corner < 8; corner++) {
            int x = LAST * (corner & 1);
            int y = LAST * (corner >> 1 & 1);
            int z = LAST * (corner >> 2);
            cellIs(x, y, z);
        }
    }

    /** A model of one cell comes to lie where the only sound one is. */
    private static void cellIs(int x, int y, int z) {
        RoughStones house = Check.cubeHouse();
        house.scan(0, z, Check.cell(x, y), 0);
        String at = " of the cell " + x + " " + y + " " + z;
        Check.due("x" + at, house.cut(0, 0, 3), x);
        Check.due("y" + at, house.cut(0, 0, 4), y);
        Check.due("z" + at, house.cut(0, 0, 5), z);
    }

    private static void voidAtFirst() {
        RoughStones house = houseOfRoughs(1);
        Check.model(house, "1x1@0,0");
        house.price(1, 1);
        Check.fill(house, 0);
        for (int k = 1; k < 10; k++) {
            house.rough();
            Check.due("stuff of a new rough", house.stuff(k), 0);
            Check.due("best of a new rough", house.best(k), 0);
            Check.due("fit of a new rough", house.fit(k, 0, 0), 0);
        }
    }

    private static void oneLayerIsTold() {
        RoughStones house = houseOfRoughs(2);
        for (int z = 0; z <= LAST; z++) {
            house.scan(0, z, (1L << z + 1) - 1, 0);
        }
        Check.due("layers of 1 to 6 cells", house.stuff(0), 21);
        house.scan(0, 3, 0b1000000, 0);
        Check.due("one is told anew, not added to", house.stuff(0), 18);
        house.scan(0, LAST, 0, 0);
        Check.due("one is told void", house.stuff(0), 12);
        Check.due("the other rough has none of it", house.stuff(1), 0);
    }

    private static void eachBit() {
        for (int z = 0; z <= LAST; z += LAST) {
            for (int y = 0; y <= LAST; y++) {
                for (int x = 0; x <= LAST; x++) {
                    cellIs(x, y, z);
                }
            }
        }
    }

    private static void flaws() {
        RoughStones house = houseOfRoughs(1);
        Check.due("one flaw at the first bit", house.scan(0, 0, Check.FULL, 1), 35);
        Check.due("one flaw at the last bit", house.scan(0, LAST, Check.FULL, 1L << 35), 35);
        Check.due("stuff without the flaws", house.stuff(0), 70);
        Check.due("all flawed", house.scan(0, 0, Check.FULL, Check.FULL), 0);
        Check.due("no flaw any more, told anew", house.scan(0, 0, Check.FULL, 0), 36);
        RoughStones cut = Check.cubeHouse();
        cut.scan(0, 0, 0b11, 0b01);
        Check.due("the cut is of the cell without a flaw", cut.cut(0, 0, 3), 1);
    }

    private static void flawsOfNothing() {
        RoughStones house = houseOfRoughs(1);
        Check.due("flaws beside the sound ones", house.scan(0, 0, 0b001, 0b110), 1);
        Check.due("flaws beside and among them", house.scan(0, 0, 0b011, 0b110), 1);
        Check.due("flaws alone", house.scan(0, 1, 0, Check.FULL), 0);
        Check.due("they make nothing sound", house.stuff(0), 1);
    }

    private static void nothingAtFirst() {
        RoughStones house = new RoughStones();
        for (int what = 0; what <= 7; what++) {
            Check.due("count(" + what + ")", house.count(what), 0);
        }
        Check.dueThrow("no rough", Check.INDEX, () -> house.stuff(0));
        Check.dueThrow("no stone", Check.ELEMENT, () -> house.round(0));
        Check.dueThrow("no lot", Check.ARGUMENT, () -> house.bid(0, 0, 1));
        Check.due("no price", house.worth(216), 0);
        Check.due("no stones to match", house.match(), 0);
        Check.due("no lots to sell", house.sell(), 0);
        for (int bidder = 0; bidder < 4; bidder++) {
            Check.due("lots of a bidder", house.most(bidder, 6), 6);
        }
        house.rough();
        Check.dueThrow("no model", Check.ELEMENT, () -> house.fit(0, 0, 0));
        Check.due("NONE", RoughStones.NONE, -1);
    }

    private static void objectsAreApart() {
        RoughStones used = Check.cubeHouse();
        Check.stone(used, 1);
        used.lot(1, 0);
        used.feed(1, 2, 3, 4, 5);
        used.most(0, 1);
        nothingAtFirst();
        Check.due("the other keeps its own", used.count(2), 1);
    }

    private static void emptyTape() {
        RoughStones house = new RoughStones();
        Check.due("bytes", house.count(6), 0);
        Check.dueThrow("a byte that is not there", Check.ARGUMENT, () -> house.model(1));
        Check.due("the empty text is no model", house.model(0), -2);
        Check.due("the first feed", house.feed(0, 0, 0, 0, 0), 20);
    }

    private static void roughNumbers() {
        RoughStones house = new RoughStones();
        for (int k = 0; k < 10; k++) {
            Check.due("rough", house.rough(), k);
            Check.due("roughs", house.count(0), k + 1);
        }
    }

    private static void eleventhRough() {
        RoughStones house = houseOfRoughs(9);
        Check.due("the tenth", house.rough(), 9);
        Check.due("an eleventh", house.rough(), -1);
        Check.due("once more", house.rough(), -1);
        Check.due("roughs", house.count(0), 10);
        Check.dueThrow("it is none", Check.INDEX, () -> house.stuff(10));
    }

    private static void scanCounts() {
        RoughStones house = houseOfRoughs(1);
        Check.due("none", house.scan(0, 0, 0, 0), 0);
        Check.due("the first", house.scan(0, 0, 1, 0), 1);
        Check.due("the last", house.scan(0, 0, 1L << 35, 0), 1);
        Check.due("all", house.scan(0, LAST, Check.FULL, 0), 36);
        Check.due("of this layer alone", house.scan(0, 2, 0b111, 0b10), 2);
    }

    private static void scanOfNoRough() {
        RoughStones house = houseOfRoughs(2);
        Check.dueThrows("scan of no rough", Check.INDEX, k -> house.scan(k, 0, 1, 0), Check.outside(2));
        Check.dueThrow("ahead of wrong bits", Check.INDEX, () -> house.scan(2, 0, -1, -1));
        Check.due("nothing came", house.stuff(0) + house.stuff(1), 0);
        RoughStones empty = new RoughStones();
        Check.dueThrow("without any", Check.INDEX, () -> empty.scan(0, 0, 1, 0));
        RoughStones full = houseOfRoughs(10);
        Check.dueThrow("with ten of them", Check.INDEX, () -> full.scan(10, 0, 1, 0));
    }

    private static void scanOfNoLayer() {
        RoughStones house = houseOfRoughs(1);
        Check.dueThrows("scan of no layer", Check.INDEX, z -> house.scan(0, z, 1, 0), Check.outside(6));
        Check.dueThrow("ahead of wrong bits", Check.INDEX, () -> house.scan(0, 6, -1, -1));
        Check.due("nothing came", house.stuff(0), 0);
    }

    private static void noRoughBelow() {
        RoughStones house = houseOfRoughs(2);
        Check.model(house, "1x1@0,0");
        int[] outside = Check.outside(2);
        Check.dueThrows("stuff", Check.INDEX, house::stuff, outside);
        Check.dueThrows("fit", Check.INDEX, k -> house.fit(k, 0, 0), outside);
        Check.dueThrows("fit, ahead of the model and the way", Check.INDEX, k -> house.fit(k, 1, 6), outside);
        Check.dueThrows("best", Check.INDEX, house::best, outside);
        Check.dueThrows("sawn", Check.INDEX, k -> house.sawn(k, 0), outside);
        Check.dueThrows("sawn, ahead of what", Check.INDEX, k -> house.sawn(k, 3), outside);
        Check.dueThrows("cut", Check.INDEX, k -> house.cut(k, 0, 0), outside);
        Check.dueThrows("cut, ahead of what", Check.INDEX, k -> house.cut(k, 0, 7), outside);
        Check.dueThrows("done", Check.INDEX, house::done, outside);
    }

    private static void bitsBeyond() {
        RoughStones house = houseOfRoughs(1);
        house.scan(0, 0, 7, 0);
        for (int bit = 36; bit < 63; bit++) {
            long beyond = 1L << bit;
            Check.dueThrow("sound bit " + bit, Check.ARGUMENT, () -> house.scan(0, 0, beyond, 0));
            Check.dueThrow("flawed bit " + bit, Check.ARGUMENT, () -> house.scan(0, 0, 0, beyond));
        }
        Check.dueThrow("a good bit too", Check.ARGUMENT, () -> house.scan(0, 0, Check.FULL + 1 | 1, 0));
        Check.dueThrow("sound and flawed", Check.ARGUMENT, () -> house.scan(0, 0, 1L << 36, 1L << 36));
        Check.due("nothing has changed", house.stuff(0), 3);
        Check.due("36 bits are good", house.scan(0, 0, Check.FULL, Check.FULL), 0);
    }

    private static void bitsBelow() {
        RoughStones house = houseOfRoughs(1);
        house.scan(0, 0, 7, 0);
        for (long below : new long[] {-1, Long.MIN_VALUE, Long.MIN_VALUE | 1, ~Check.FULL, Integer.MIN_VALUE}) {
            Check.dueThrow("sound " + below, Check.ARGUMENT, () -> house.scan(0, 0, below, 0));
            Check.dueThrow("flawed " + below, Check.ARGUMENT, () -> house.scan(0, 0, 0, below));
            Check.dueThrow("both " + below, Check.ARGUMENT, () -> house.scan(0, 0, below, below));
        }
        Check.due("nothing has changed", house.stuff(0), 3);
    }

    private static void stuffOfAll() {
        RoughStones house = houseOfRoughs(2);
        Check.due("of none", house.stuff(0), 0);
        for (int z = 0; z <= LAST; z++) {
            house.scan(0, z, Check.FULL, 0);
            Check.due("up to layer " + z, house.stuff(0), 36 * (z + 1));
        }
        house.scan(0, 3, Check.FULL, 0b11);
        Check.due("two flaws", house.stuff(0), 214);
        Check.due("asked again", house.stuff(0), 214);
        Check.due("of this rough alone", house.stuff(1), 0);
    }
}

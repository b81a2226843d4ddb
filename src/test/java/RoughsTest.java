/** Promises 1 to 4: a new object, rough, scan, stuff. */
public final class RoughsTest {
    public static void main(String[] args) {
        newObject();
        roughs();
        scans();
        scansRefused();
        stuff();
        Check.end();
    }

    private static void newObject() {
        RoughStones house = new RoughStones();
        for (int what = 0; what <= 7; what++) {
            Check.due("count(" + what + ") of a new object", house.count(what), 0);
        }
        Check.due("worth(216) of a new object", house.worth(216), 0);
        Check.due("match of a new object", house.match(), 0);
        Check.due("sell of a new object", house.sell(), 0);
        for (int bidder = 0; bidder < 4; bidder++) {
            Check.due("most of a new object", house.most(bidder, 6), 6);
        }
        Check.dueThrow("stuff(0) of a new object", Check.INDEX, () -> house.stuff(0));
        Check.dueThrow("round(0) of a new object", Check.ELEMENT, () -> house.round(0));
        Check.dueThrow("bid for no lot", Check.ARGUMENT, () -> house.bid(0, 0, 1));
        Check.dueThrow("a model of a byte that is not there", Check.ARGUMENT, () -> house.model(1));
        Check.due("NONE", RoughStones.NONE, -1);
    }

    private static void roughs() {
        RoughStones house = new RoughStones();
        for (int k = 0; k < 10; k++) {
            Check.due("rough", house.rough(), k);
            Check.due("a new rough is void", house.stuff(k), 0);
        }
        Check.due("an 11th rough", house.rough(), -1);
        Check.due("count after it", house.count(0), 10);
    }

    private static void scans() {
        RoughStones house = new RoughStones();
        house.rough();
        house.rough();
        Check.due("all sound", house.scan(0, 5, Check.FULL, 0), 36);
        Check.due("all flawed", house.scan(0, 5, Check.FULL, Check.FULL), 0);
        Check.due("some flawed", house.scan(0, 5, 0b111, 0b101), 1);
        Check.due("flaws where nothing is", house.scan(0, 5, 0b1, 0b110), 1);
        Check.due("a scan tells the layer anew", house.scan(0, 5, 0b1000, 0), 1);
        Check.due("one cell stays", house.stuff(0), 1);
        Check.due("the last bit", house.scan(1, 0, 1L << 35, 0), 1);
        Check.due("roughs are apart", house.stuff(0), 1);
    }

    private static void scansRefused() {
        RoughStones house = new RoughStones();
        house.rough();
        house.scan(0, 0, 7, 0);
        Check.dueThrow("rough -1", Check.INDEX, () -> house.scan(-1, 0, 0, 0));
        Check.dueThrow("rough 1", Check.INDEX, () -> house.scan(1, 0, 0, 0));
        Check.dueThrow("layer -1", Check.INDEX, () -> house.scan(0, -1, 0, 0));
        Check.dueThrow("layer 6", Check.INDEX, () -> house.scan(0, 6, 0, 0));
        Check.dueThrow("rough ahead of bits", Check.INDEX, () -> house.scan(1, 0, -1, -1));
        Check.dueThrow("layer ahead of bits", Check.INDEX, () -> house.scan(0, 6, -1, -1));
        Check.dueThrow("sound below 0", Check.ARGUMENT, () -> house.scan(0, 0, -1, 0));
        Check.dueThrow("flawed below 0", Check.ARGUMENT, () -> house.scan(0, 0, 0, Long.MIN_VALUE));
        Check.dueThrow("sound beyond 36", Check.ARGUMENT, () -> house.scan(0, 0, 1L << 36, 0));
        Check.dueThrow("flawed beyond 36", Check.ARGUMENT, () -> house.scan(0, 0, 0, 1L << 36));
        Check.due("nothing has changed", house.stuff(0), 3);
    }

    private static void stuff() {
        RoughStones house = new RoughStones();
        house.rough();
        Check.fill(house, 0);
        Check.due("a full rough", house.stuff(0), 216);
        house.scan(0, 3, Check.FULL, 0b11);
        Check.due("two flaws", house.stuff(0), 214);
        Check.dueThrow("stuff(-1)", Check.INDEX, () -> house.stuff(-1));
        Check.dueThrow("stuff(1)", Check.INDEX, () -> house.stuff(1));
    }
}

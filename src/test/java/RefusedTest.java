/**
 * A call that is refused, by an exception or by an answer like -1, changes nothing, and neither does one that only
 * asks: of two houses made alike one gets the call, and both answer alike from then on.
 */
public final class RefusedTest {
    private interface Made {
        RoughStones house();
    }

    private interface CallOn {
        int answer(RoughStones house);
    }

    /** The sound cells of rough 0 of a busy house: two cells, which are sawn apart. */
    private static final long APART = 0b101;

    public static void main(String[] args) {
        roughsAndModels();
        stones();
        sales();
        questions();
        fullHouse();
        fullTape();
        Check.end();
    }

    /** Two roughs, two models, a text on the tape, six stones (0 and 1, 2 and 3 pairs), two lots with bids. */
    private static RoughStones busyHouse() {
        RoughStones house = Check.cubeHouse();
        house.rough();
        Check.model(house, "2x1@3,1");
        house.price(2, 4);
        for (int k = 0; k < 4; k++) {
            Check.polished(house, 1, k < 2 ? 0 : 90, 10 * k);
        }
        house.match();
        Check.stone(house, 1);
        house.facet(4, 90, 30);
        house.facet(4, 40, 20);
        Check.stone(house, 1);
        house.scan(0, 0, APART, 0);
        house.lot(0b000011, 0);
        house.lot(0b010000, 0);
        house.bid(0, 0, 5);
        house.bid(1, 0, 6);
        house.bid(1, 1, 3);
        house.most(1, 1);
        Check.type(house, "1x1@0,0");
        return house;
    }

    private static String trailOf(RoughStones house) {
        StringBuilder trail = new StringBuilder();
        for (int what = 0; what < 8; what++) {
            tell(trail, "count " + what, house.count(what));
        }
        int roughs = house.count(0);
        for (int rough = 0; rough < roughs; rough++) {
            tell(trail, "stuff " + rough, house.stuff(rough));
            tell(trail, "best " + rough, house.best(rough));
            tell(trail, "axis " + rough, house.sawn(rough, 0));
            tell(trail, "a " + rough, house.cut(rough, 0, 3));
            tell(trail, "second a " + rough, house.cut(rough, 1, 3));
        }
        for (int weight = 1; weight <= 10; weight++) {
            tell(trail, "worth " + weight, house.worth(weight));
        }
        tell(trail, "worth 216", house.worth(216));
        int stones = house.count(2);
        for (int stone = 0; stone < stones; stone++) {
            tell(trail, "grains " + stone, house.told(stone, 0));
            tell(trail, "polished " + stone, house.told(stone, 3));
            tell(trail, "mate " + stone, house.told(stone, 4));
            tell(trail, "lot " + stone, house.told(stone, 5));
        }
        tell(trail, "round 4", house.round(4));
        tell(trail, "plan 4", house.plan(4, 0));
        tell(trail, "behind plan 4", house.plan(4, 2));
        tell(trail, "round 5", house.round(5));
        tellSale(trail, house);
        return trail.toString();
    }

    /** What can be seen only by going on: bids that may still be sealed, the sale, limits, the tape. */
    private static void tellSale(StringBuilder trail, RoughStones house) {
        for (int lot = 0; lot < 2; lot++) {
            tell(trail, "bid for " + lot, house.bid(3, lot, 1));
        }
        tell(trail, "sale", house.sell());
        int stones = house.count(2);
        for (int stone = 0; stone < stones; stone++) {
            tell(trail, "buyer of " + stone, house.told(stone, 6));
        }
        for (int bidder = 0; bidder < 4; bidder++) {
            tell(trail, "most of " + bidder, house.most(bidder, 0));
        }
        if (house.count(1) < 6) {
            tell(trail, "model", house.model(7));
        }
    }

    private static void tell(StringBuilder trail, String what, int answer) {
        trail.append(what).append(": ").append(answer).append("; ");
    }

    private static void refused(String what, Made made, int want, CallOn call) {
        RoughStones one = made.house();
        Check.due(what, call.answer(one), want);
        unchanged(what, one, made);
    }

    private static void refused(String what, Made made, Class<?> want, CallOn call) {
        RoughStones one = made.house();
        Check.dueThrow(what, want, () -> call.answer(one));
        unchanged(what, one, made);
    }

    private static void unchanged(String what, RoughStones one, Made made) {
        String got = trailOf(one);
        String want = trailOf(made.house());
        Check.due(what + " changed\n" + want + "\nto\n" + got + "\n, the same", got.equals(want) ? 1 : 0, 1);
    }

    private static void busy(String what, int want, CallOn call) {
        refused(what, RefusedTest::busyHouse, want, call);
    }

    private static void busy(String what, Class<?> want, CallOn call) {
        refused(what, RefusedTest::busyHouse, want, call);
    }

    private static void roughsAndModels() {
        busy("scan of no rough", Check.INDEX, house -> house.scan(2, 0, 0, 0));
        busy("scan of no layer", Check.INDEX, house -> house.scan(0, 6, 0, 0));
        busy("sound bits beyond", Check.ARGUMENT, house -> house.scan(0, 0, 1L << 36, 0));
        busy("flawed bits beyond", Check.ARGUMENT, house -> house.scan(0, 0, 0, 1L << 36));
        busy("sound below 0", Check.ARGUMENT, house -> house.scan(0, 0, -1, 0));
        busy("flawed below 0", Check.ARGUMENT, house -> house.scan(0, 0, 0, -1));
        busy("stuff of no rough", Check.INDEX, house -> house.stuff(2));
        busy("model of too few", Check.ARGUMENT, house -> house.model(-1));
        busy("model of too many", Check.ARGUMENT, house -> house.model(21));
        busy("price of no weight", Check.ARGUMENT, house -> house.price(0, 9));
        busy("price of too great a weight", Check.ARGUMENT, house -> house.price(217, 9));
        busy("price below 0", Check.ARGUMENT, house -> house.price(1, -1));
        busy("price too great", Check.ARGUMENT, house -> house.price(1, 10001));
        busy("worth of no weight", Check.ARGUMENT, house -> house.worth(217));
        busy("fit in no rough", Check.INDEX, house -> house.fit(2, 0, 0));
        busy("fit of no model", Check.ELEMENT, house -> house.fit(0, 2, 0));
        busy("fit in no way", Check.ARGUMENT, house -> house.fit(0, 0, 6));
        busy("best of no rough", Check.INDEX, house -> house.best(2));
        busy("sawn of no rough", Check.INDEX, house -> house.sawn(2, 0));
        busy("sawn of another", Check.ARGUMENT, house -> house.sawn(0, 3));
        busy("cut of no rough", Check.INDEX, house -> house.cut(2, 0, 0));
        busy("cut of another", Check.ARGUMENT, house -> house.cut(0, 0, 7));
        busy("no third cut", -1, house -> house.cut(0, 2, 0));
        busy("done of no rough", Check.INDEX, house -> house.done(2));
    }

    private static void stones() {
        busy("facet of no stone", Check.ELEMENT, house -> house.facet(6, 0, 0));
        busy("facet of no index", Check.ARGUMENT, house -> house.facet(4, 96, 0));
        busy("facet of no angle", Check.ARGUMENT, house -> house.facet(4, 0, 91));
        busy("facet of a polished one", -1, house -> house.facet(0, 9, 9));
        busy("round of no stone", Check.ELEMENT, house -> house.round(6));
        busy("plan of no stone", Check.ELEMENT, house -> house.plan(6, 0));
        busy("plan of no facet", -1, house -> house.plan(4, 2));
        busy("polish of no stone", Check.ELEMENT, house -> house.polish(6));
        busy("polish again", -1, house -> house.polish(0));
        busy("polish without a facet", -2, house -> house.polish(5));
        busy("told of no stone", Check.ELEMENT, house -> house.told(6, 0));
        busy("told another", Check.ARGUMENT, house -> house.told(0, 7));
        busy("match of nothing", 0, RoughStones::match);
    }

    private static void sales() {
        busy("lot of no stone", Check.ARGUMENT, house -> house.lot(0b1100000, 0));
        busy("lot of bits beyond", Check.ARGUMENT, house -> house.lot(0b100000, 1 << 20));
        busy("lot of none", -1, house -> house.lot(0, 0));
        busy("lot of one in a lot", -2, house -> house.lot(0b110000, 0));
        busy("lot without a mate", -3, house -> house.lot(0b101000, 0));
        busy("bid of no bidder", Check.INDEX, house -> house.bid(4, 0, 9));
        busy("bid for no lot", Check.ARGUMENT, house -> house.bid(0, 2, 9));
        busy("bid of nothing", Check.ARGUMENT, house -> house.bid(0, 1, 0));
        busy("bid of too much", Check.ARGUMENT, house -> house.bid(0, 1, 1000001));
        busy("bid again", -1, house -> house.bid(0, 0, 9));
        busy("most of no bidder", Check.INDEX, house -> house.most(4, 0));
        busy("most of too few", Check.ARGUMENT, house -> house.most(1, -1));
        busy("most of too many", Check.ARGUMENT, house -> house.most(1, 7));
        busy("count of others", -1, house -> house.count(8));
    }

    private static void questions() {
        busy("stuff", 2, house -> house.stuff(0));
        busy("worth", 8, house -> house.worth(2));
        busy("fit", 1, house -> house.fit(0, 0, 0));
        busy("best", 2, house -> house.best(0));
        busy("best of a void one", 0, house -> house.best(1));
        busy("sawn", 2, house -> house.sawn(0, 2));
        busy("cut", 2, house -> house.cut(0, 1, 3));
        busy("round", 132, house -> house.round(4));
        busy("plan", 0, house -> house.plan(4, 0));
        busy("told", 1, house -> house.told(0, 4));
        busy("count", 6, house -> house.count(2));
    }

    /** As many of all as there may be: roughs, models, steps, stones, facets (of stone 4) and lots. */
    private static RoughStones houseThatIsFull() {
        RoughStones house = Check.rowHouse();
        for (int k = 1; k < 10; k++) {
            house.rough();
            house.price(1 + k, 1);
        }
        for (int k = 0; k < 40; k++) {
            house.scan(0, 0, 1, 0);
            house.done(0);
        }
        for (int k = 0; k < 8; k++) {
            house.facet(4, 10 * k, 5);
        }
        for (int k = 0; k < 6; k++) {
            house.lot(1 << k, 0);
        }
        house.scan(0, 0, APART, 0);
        house.scan(9, 5, 1, 0);
        return house;
    }

    private static void full(String what, int want, CallOn call) {
        refused(what, RefusedTest::houseThatIsFull, want, call);
    }

    private static void fullHouse() {
        full("an 11th rough", -1, RoughStones::rough);
        full("an 11th step", -1, house -> house.price(216, 9));
        full("a 41st and a 42nd stone", -1, house -> house.done(0));
        full("a 41st stone", -1, house -> house.done(9));
        full("a 9th facet", -2, house -> house.facet(4, 48, 90));
        full("a 7th lot", -4, house -> house.lot(1 << 6, 0));
        full("a lot of too many", -1, house -> house.lot(0xFFFC0, 0));
        refused("a 7th model", RefusedTest::houseThatIsFull, Check.STATE, house -> house.model(0));
    }

    private static RoughStones houseOfFullTape() {
        RoughStones house = busyHouse();
        Check.type(house, " ".repeat(80));
        return house;
    }

    private static void fullTape() {
        refused("beyond 100 bytes", RefusedTest::houseOfFullTape, -1, house -> house.feed(1, 2, 3, 4, 5));
        refused("a model of 101 bytes", RefusedTest::houseOfFullTape, Check.ARGUMENT, house -> house.model(101));
    }
}

/** Promises 20 to 24: lot, bid, most, sell, count. */
public final class SalesTest {
    public static void main(String[] args) {
        lots();
        lotsRefused();
        lotsThatAreNone();
        sixLots();
        bids();
        limits();
        sales();
        firstOfTheSame();
        soldStonesAreNotMatched();
        manySales();
        counts();
        Check.end();
    }

    private static RoughStones houseOf(int stones) {
        RoughStones house = Check.cubeHouse();
        for (int k = 0; k < stones; k++) {
            Check.stone(house, 1);
        }
        return house;
    }

    private static void lots() {
        RoughStones house = houseOf(40);
        Check.due("a lot", house.lot(0b11, 0), 0);
        Check.due("ten stones", house.lot(0x3FF << 10, 0), 1);
        Check.due("of both numbers", house.lot(0b100, 1 << 19 | 1), 2);
        Check.due("0", house.told(0, 5), 0);
        Check.due("1", house.told(1, 5), 0);
        Check.due("2", house.told(2, 5), 2);
        Check.due("3", house.told(3, 5), -1);
        Check.due("19", house.told(19, 5), 1);
        Check.due("20", house.told(20, 5), 2);
        Check.due("39", house.told(39, 5), 2);
        Check.due("lots", house.count(3), 3);
    }

    private static void lotsRefused() {
        RoughStones house = houseOf(21);
        Check.dueThrow("a stone that is none", Check.ARGUMENT, () -> house.lot(0, 0b10));
        Check.dueThrow("a bit above 19", Check.ARGUMENT, () -> house.lot(1 << 20, 0));
        Check.dueThrow("a bit above 39", Check.ARGUMENT, () -> house.lot(0, 1 << 20));
        Check.dueThrow("below 0", Check.ARGUMENT, () -> house.lot(Integer.MIN_VALUE, 0));
        Check.dueThrow("high below 0", Check.ARGUMENT, () -> house.lot(1, -1));
        Check.dueThrow("ahead of too many", Check.ARGUMENT, () -> house.lot(0xFFFFF, 0b11));
        Check.due("too many", house.lot(0xFFFFF, 0b1), -1);
        Check.due("the last one", house.lot(0, 1), 0);
        RoughStones empty = new RoughStones();
        Check.dueThrow("no stones at all", Check.ARGUMENT, () -> empty.lot(1, 0));
        Check.due("none of them", empty.lot(0, 0), -1);
    }

    private static void lotsThatAreNone() {
        RoughStones house = houseOf(14);
        for (int k = 0; k < 4; k++) {
            house.facet(k, 0, 0);
            house.polish(k);
        }
        house.match();
        Check.due("eleven", house.lot(0x7FF, 0), -1);
        Check.due("half a pair", house.lot(0b1, 0), -3);
        Check.due("halves of two pairs", house.lot(0b101, 0), -3);
        Check.due("a pair and one more", house.lot(0b10011, 0), 0);
        Check.due("in a lot, ahead of the pair", house.lot(0b101, 0), -2);
        Check.due("too many, ahead of the lot", house.lot(0x7FF, 0), -1);
        house.bid(0, 0, 1);
        house.sell();
        Check.due("sold", house.lot(0b10000, 0), -2);
        Check.due("the other pair", house.lot(0b1100, 0), 0);
    }

    private static void sixLots() {
        RoughStones house = houseOf(10);
        house.facet(8, 0, 0);
        house.polish(8);
        house.facet(9, 0, 0);
        house.polish(9);
        house.match();
        for (int k = 0; k < 6; k++) {
            Check.due("lot", house.lot(1 << k, 0), k);
        }
        Check.due("a 7th", house.lot(1 << 6, 0), -4);
        Check.due("a pair that lacks comes ahead", house.lot(1 << 8, 0), -3);
        Check.due("one in a lot comes ahead", house.lot(1, 0), -2);
        Check.due("the stone is in none", house.told(6, 5), -1);
        house.sell();
        Check.due("lots begin anew", house.lot(1 << 6, 0), 0);
        Check.due("those given to none may be in one again", house.lot(1, 0), 1);
    }

    private static void bids() {
        RoughStones house = houseOf(2);
        house.lot(1, 0);
        Check.dueThrow("bidder -1", Check.INDEX, () -> house.bid(-1, 9, 0));
        Check.dueThrow("bidder 4", Check.INDEX, () -> house.bid(4, 0, 1));
        Check.dueThrow("lot -1", Check.ARGUMENT, () -> house.bid(0, -1, 1));
        Check.dueThrow("lot 1", Check.ARGUMENT, () -> house.bid(0, 1, 1));
        Check.dueThrow("price 0", Check.ARGUMENT, () -> house.bid(0, 0, 0));
        Check.dueThrow("price above", Check.ARGUMENT, () -> house.bid(0, 0, 1000001));
        Check.due("the least", house.bid(0, 0, 1), 1);
        Check.due("the greatest", house.bid(1, 0, 1000000), 1);
        Check.due("sealed", house.bid(0, 0, 7), -1);
        Check.dueThrow("no bid, though sealed", Check.ARGUMENT, () -> house.bid(0, 0, 0));
        Check.due("sale", house.sell(), 1000000);
        house.lot(2, 0);
        Check.due("bids are gone with the sale", house.bid(0, 0, 3), 1);
        Check.due("a sale of the sealed one", house.sell(), 3);
    }

    private static void limits() {
        RoughStones house = houseOf(4);
        Check.dueThrow("bidder -1", Check.INDEX, () -> house.most(-1, 7));
        Check.dueThrow("bidder 4", Check.INDEX, () -> house.most(4, 0));
        Check.dueThrow("-1 lots", Check.ARGUMENT, () -> house.most(0, -1));
        Check.dueThrow("7 lots", Check.ARGUMENT, () -> house.most(0, 7));
        Check.due("six at first", house.most(0, 0), 6);
        Check.due("then what was told", house.most(0, 0), 0);
        house.lot(1, 0);
        house.bid(0, 0, 500);
        Check.due("nobody takes it", house.sell(), 0);
        Check.due("not sold", house.told(0, 6), -1);
        Check.due("in no lot", house.told(0, 5), -1);
        Check.due("the limit stays behind a sale", house.most(0, 1), 0);
        house.lot(1, 0);
        house.lot(2, 0);
        house.bid(0, 0, 5);
        house.bid(0, 1, 6);
        Check.due("one of two", house.sell(), 6);
        Check.due("the dearer one", house.told(1, 6), 0);
        Check.due("not the other", house.told(0, 6), -1);
    }

    private static void sales() {
        RoughStones house = houseOf(6);
        for (int k = 0; k < 3; k++) {
            house.lot(0b11 << 2 * k, 0);
        }
        house.most(0, 1);
        house.most(1, 1);
        int[][] prices = {{10, 9}, {10, 3}, {8, 8}};
        for (int lot = 0; lot < 3; lot++) {
            house.bid(0, lot, prices[lot][0]);
            house.bid(1, lot, prices[lot][1]);
        }
        Check.due("not each lot to its greatest bid", house.sell(), 19);
        Check.due("lot 0", house.told(0, 6), 1);
        Check.due("its other stone", house.told(1, 6), 1);
        Check.due("lot 1", house.told(2, 6), 0);
        Check.due("lot 2", house.told(4, 6), -1);
        Check.due("no lots", house.count(3), 0);
        Check.due("sold", house.count(7), 4);
        Check.due("brought", house.count(4), 19);
        Check.due("nothing more", house.sell(), 0);
    }

    private static void firstOfTheSame() {
        RoughStones house = houseOf(3);
        for (int k = 0; k < 3; k++) {
            house.lot(1 << k, 0);
        }
        house.most(1, 1);
        house.most(2, 1);
        for (int lot = 0; lot < 3; lot++) {
            house.bid(1, lot, 5);
            house.bid(2, lot, 5);
        }
        Check.due("two of three", house.sell(), 10);
        Check.due("the least bidder first", house.told(0, 6), 1);
        Check.due("then the next", house.told(1, 6), 2);
        Check.due("none behind all", house.told(2, 6), -1);
    }

    private static void soldStonesAreNotMatched() {
        RoughStones house = houseOf(3);
        for (int k = 0; k < 3; k++) {
            house.facet(k, 0, 0);
            house.polish(k);
        }
        house.lot(1, 0);
        house.bid(3, 0, 1);
        house.sell();
        Check.due("bought", house.told(0, 6), 3);
        house.lot(2, 0);
        Check.due("one in a lot is matched, one sold is not", house.match(), 1);
        Check.due("1 with 2", house.told(1, 4), 2);
        Check.due("0 with none", house.told(0, 4), -1);
        Check.due("the mate alone is no lot", house.lot(4, 0), -3);
        Check.due("both are none, one being in one", house.lot(6, 0), -2);
        house.bid(2, 0, 9);
        house.sell();
        Check.due("the trail keeps the pair", house.told(1, 4), 2);
        Check.due("of the one left too", house.told(2, 4), 1);
        Check.due("which is not matched again", house.match(), 0);
    }

    private static void manySales() {
        RoughStones house = houseOf(40);
        int sum = 0;
        for (int from = 0; from < 36; from += 6) {
            for (int k = from; k < from + 6; k++) {
                house.lot(k < 20 ? 1 << k : 0, k < 20 ? 0 : 1 << k - 20);
                for (int bidder = 0; bidder < 4; bidder++) {
                    house.bid(bidder, k - from, 1000000 - bidder);
                }
            }
            sum += 6000000;
            Check.due("a sale of six", house.sell(), 6000000);
            Check.due("all sales", house.count(4), sum);
        }
        Check.due("all sold", house.count(7), 36);
    }

    private static void counts() {
        RoughStones house = houseOf(2);
        house.rough();
        house.rough();
        house.price(5, 5);
        house.feed(1, 2, 3, 4, 5);
        house.lot(1, 0);
        house.bid(0, 0, 4);
        int[] want = {3, 1, 2, 1, 0, 2, 20, 0};
        for (int what = 0; what < 8; what++) {
            Check.due("count " + what, house.count(what), want[what]);
        }
        house.sell();
        Check.due("lots", house.count(3), 0);
        Check.due("brought", house.count(4), 4);
        Check.due("sold", house.count(7), 1);
        Check.due("what -1", house.count(-1), -1);
        Check.due("what 8", house.count(8), -1);
        Check.due("what of the least", house.count(Integer.MIN_VALUE), -1);
    }
}

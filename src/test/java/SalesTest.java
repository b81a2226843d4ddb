/** Promises 20 to 24: lot, bid, most, sell, count. */
public final class SalesTest {
    public static void main(String[] args) throws Exception {
        Sentences doc = new Sentences(args);
        terms(doc);
        lotPromise(doc);
        bidPromises(doc);
        salePromises(doc);
        doc.end();
    }

    private static void terms(Sentences doc) {
        int in = Sentences.TERMS;
        doc.takeTerms("LOTS, numbered", "## Promise 1:");
        doc.holds(in, "LOTS, numbered from 0 on, 6 at most,", SalesTest::sixLots);
        doc.holds(in, "are of 1 to 10 STONES each", SalesTest::oneToTenStones);
        doc.holds(in, "that are in no LOT yet", SalesTest::inNoLotYet);
        doc.holds(in, "(of a PAIR both or none).", SalesTest::bothOrNone);
        doc.holds(in, "BIDS: of BIDDERS 0 to 3 for each LOT (0: none),", SalesTest::fourBidders);
        doc.holds(in, "each sealed once;", SalesTest::sealedOnce);
        doc.holds(in, "a BIDDER takes so many LOTS at most (0 to 6; 6 at first).", SalesTest::limitedBidders);
        doc.holds(in, "SOLD are all at once:", SalesTest::allAtOnce);
        doc.holds(in, "of all ways to give LOTS to BIDDERS who bid for them, or to none,", SalesTest::whoBid);
        doc.holds(in, "the one that brings most;", SalesTest::bringsMost);
        doc.holds(in, "of these the first (LOT by LOT the least BIDDER,", SalesTest::leastBidder);
        doc.holds(in, "the least BIDDER, none behind all).", SalesTest::noBidderBehindAll);
    }

    private static void lotPromise(Sentences doc) {
        doc.takePromises(20);
        doc.holds(20, "A LOT of the STONES of two numbers (0 to 19 by the first one's bits, "
                + "20 to 39 by the second's):", SalesTest::eachStoneByItsBit);
        doc.holds(20, "its number;", SalesTest::lotNumbers);
        doc.holds(20, "or, the first of these:", SalesTest::orderOfRefusals);
        doc.holds(20, "-1 they are not 1 to 10;", SalesTest::noneOrEleven);
        doc.holds(20, "-2 one is in a LOT", SalesTest::inALot);
        doc.holds(20, "or SOLD;", SalesTest::soldInNoLot);
        doc.holds(20, "-3 one of a PAIR lacks;", SalesTest::oneOfAPair);
        doc.holds(20, "-4 there are 6 LOTS.", SalesTest::seventhLot);
        doc.holds(20, "IllegalArgumentException: bits tell no STONE.", SalesTest::bitsOfNoStone);
    }

    private static void bidPromises(Sentences doc) {
        doc.takePromises(21, 22);
        doc.holds(21, "A BID: 1;", SalesTest::eachBid);
        doc.holds(21, "-1: it is sealed already.", SalesTest::sealedAlready);
        doc.holds(21, "IndexOutOfBoundsException: no such BIDDER;", SalesTest::bidOfNoBidder);
        doc.holds(21, "IllegalArgumentException: no such LOT,", SalesTest::bidForNoLot);
        doc.holds(21, "or the BID is not 1 to 1,000,000.", SalesTest::wrongBid);
        doc.holds(22, "How many LOTS a BIDDER takes at most: what it was.", SalesTest::whatItWas);
        doc.holds(22, "How many LOTS a BIDDER takes at most: what it was.", SalesTest::mostOfNoBidder);
        doc.holds(22, "IllegalArgumentException: they are not 0 to 6.", SalesTest::wrongLimit);
    }

    private static void salePromises(Sentences doc) {
        doc.takePromises(23, 24);
        doc.holds(23, "SOLD: what it brings;", SalesTest::whatItBrings);
        doc.holds(23, "SOLD: what it brings;", SalesTest::salesAreApart);
        doc.holds(23, "there are no LOTS,", SalesTest::noLotsThen);
        doc.holds(23, "BIDS any more", SalesTest::noBidsThen);
        doc.holds(23, "(STONES of those given to none are in none).", SalesTest::inNoneThen);
        doc.holds(24, "0 ROUGHS, 1 MODELS, 2 STONES, 3 LOTS,", SalesTest::countsOfThings);
        doc.holds(24, "4 what all sales brought,", SalesTest::broughtByAll);
        doc.holds(24, "5 steps of PRICES, 6 bytes of the TAPE,", SalesTest::countsOfStepsAndBytes);
        doc.holds(24, "7 STONES that are SOLD;", SalesTest::soldCounted);
        doc.holds(24, "NONE for others.", SalesTest::countOfOthers);
    }

    private static RoughStones houseOf(int stones) {
        RoughStones house = Check.cubeHouse();
        for (int k = 0; k < stones; k++) {
            Check.stone(house, 1);
        }
        return house;
    }

    /** The first so many of the stones are polished and matched: 0 with 1, 2 with 3 and on. */
    private static RoughStones houseOfPairs(int stones, int matched) {
        RoughStones house = houseOf(stones);
        for (int k = 0; k < matched; k++) {
            house.facet(k, 0, 0);
            house.polish(k);
        }
        house.match();
        return house;
    }

    /** A house of lots of one stone each, with the bids of each bidder for a lot (0: none). */
    private static RoughStones saleOf(int[]... bids) {
        RoughStones house = houseOf(bids.length);
        for (int lot = 0; lot < bids.length; lot++) {
            house.lot(1 << lot, 0);
            for (int bidder = 0; bidder < bids[lot].length; bidder++) {
                if (bids[lot][bidder] > 0) {
                    house.bid(bidder, lot, bids[lot][bidder]);
                }
            }
        }
        return house;
    }

    private static int[] bids(int... bids) {
        return bids;
    }

    private static void limit(RoughStones house, int... most) {
        for (int bidder = 0; bidder < most.length; bidder++) {
            house.most(bidder, most[bidder]);
        }
    }

    private static void saleIs(RoughStones house, int brings, int... buyers) {
        Check.due("sale", house.sell(), brings);
        for (int stone = 0; stone < buyers.length; stone++) {
            Check.due("buyer of " + stone, house.told(stone, 6), buyers[stone]);
        }
    }

    private static void sixLots() {
        RoughStones house = houseOf(8);
        for (int k = 0; k < 8; k++) {
            house.lot(1 << k, 0);
        }
        Check.due("six", house.count(3), 6);
        for (int k = 0; k < 8; k++) {
            Check.due("lot of " + k, house.told(k, 5), k < 6 ? k : -1);
        }
        for (int k = 0; k < 6; k++) {
            Check.due("a bid for " + k, house.bid(0, k, 1), 1);
        }
        Check.due("all six are sold", house.sell(), 6);
    }

    private static void oneToTenStones() {
        RoughStones house = houseOf(31);
        Check.due("one", house.lot(1, 0), 0);
        Check.due("ten of the first number", house.lot(0x3FF << 1, 0), 1);
        Check.due("ten of both", house.lot(0x1F << 11, 0x1F), 2);
        for (int k = 0; k < 31; k++) {
            int lot = k == 0 ? 0 : k <= 10 ? 1 : k <= 15 || k >= 20 && k <= 24 ? 2 : -1;
            Check.due("lot of " + k, house.told(k, 5), lot);
        }
    }

    private static void inNoLotYet() {
        RoughStones house = houseOf(3);
        Check.due("two", house.lot(0b011, 0), 0);
        Check.due("one of them and another", house.lot(0b110, 0), -2);
        Check.due("the other is in none", house.told(2, 5), -1);
        Check.due("alone it may be", house.lot(0b100, 0), 1);
    }

    private static void bothOrNone() {
        RoughStones house = houseOfPairs(6, 4);
        Check.due("one", house.lot(0b000001, 0), -3);
        Check.due("none", house.lot(0b010000, 0), 0);
        Check.due("both", house.lot(0b000011, 0), 1);
        Check.due("both and one in no pair", house.lot(0b101100, 0), 2);
    }

    private static void fourBidders() {
        for (int bidder = 0; bidder < 4; bidder++) {
            int[] bids = new int[4];
            bids[bidder] = 7;
            saleIs(saleOf(bids, bids), 14, bidder, bidder);
        }
        saleIs(saleOf(bids(), bids(1)), 1, -1, 0);
    }

    private static void sealedOnce() {
        RoughStones house = saleOf(bids(5), bids(5));
        house.bid(0, 0, 9);
        house.bid(0, 0, 1);
        house.bid(0, 1, 1000000);
        Check.due("the first bids count", house.sell(), 10);
    }

    private static void limitedBidders() {
        int[] six = bids(6);
        for (int most = 0; most <= 6; most++) {
            RoughStones house = saleOf(six, six, six, six, six, six);
            house.most(0, most);
            Check.due("six lots for one who takes " + most, house.sell(), 6 * most);
            for (int k = 0; k < 6; k++) {
                Check.due("buyer of " + k, house.told(k, 6), k < most ? 0 : -1);
            }
        }
        saleIs(saleOf(six, six, six, six, six, six), 36, 0, 0, 0, 0, 0, 0);
        RoughStones dear = saleOf(bids(5), bids(6), bids(7));
        dear.most(0, 1);
        saleIs(dear, 7, -1, -1, 0);
    }

    private static void allAtOnce() {
        RoughStones house = saleOf(bids(5), bids(0, 6), bids());
        saleIs(house, 11, 0, 1, -1);
        Check.due("nothing is left to sell", house.sell(), 0);
        RoughStones limits = saleOf(bids(10), bids(11));
        limits.most(0, 1);
        saleIs(limits, 11, -1, 0);
    }

    private static void whoBid() {
        saleIs(saleOf(bids(0, 0, 3), bids(), bids(0, 4)), 7, 2, -1, 1);
        RoughStones none = saleOf(bids(), bids());
        saleIs(none, 0, -1, -1);
        RoughStones limited = saleOf(bids(5), bids(5, 1));
        limited.most(0, 1);
        saleIs(limited, 6, 0, 1);
        RoughStones nobody = saleOf(bids(9, 9, 9, 9));
        limit(nobody, 0, 0, 0, 0);
        saleIs(nobody, 0, -1);
    }

    private static void bringsMost() {
        saleIs(saleOf(bids(5, 6, 7, 8)), 8, 3);
        saleIs(saleOf(bids(8, 7, 6, 5)), 8, 0);
        RoughStones chain = saleOf(bids(10, 9), bids(10, 3), bids(8, 8));
        limit(chain, 1, 1);
        saleIs(chain, 19, 1, 0, -1);
        RoughStones swapped = saleOf(bids(10, 9), bids(9, 1));
        limit(swapped, 1, 1);
        saleIs(swapped, 18, 1, 0);
        int[] dearest = bids(1000000, 999999, 999998, 999997);
        saleIs(saleOf(dearest, dearest, dearest, dearest, dearest, dearest), 6000000, 0, 0, 0, 0, 0, 0);
        RoughStones four = saleOf(dearest, dearest, dearest, dearest, dearest, dearest);
        limit(four, 1, 1, 1, 1);
        saleIs(four, 3999994, 0, 1, 2, 3, -1, -1);
    }

    private static void leastBidder() {
        int[] same = bids(5, 5, 5, 5);
        saleIs(saleOf(same), 5, 0);
        saleIs(saleOf(bids(4, 5, 5, 5)), 5, 1);
        RoughStones once = saleOf(same, same, same, same);
        limit(once, 1, 1, 1, 1);
        saleIs(once, 20, 0, 1, 2, 3);
        RoughStones twice = saleOf(same, same, same, same, same, same);
        limit(twice, 1, 2, 1, 3);
        saleIs(twice, 30, 0, 1, 1, 2, 3, 3);
        RoughStones later = saleOf(bids(5, 5), bids(0, 5), bids(5, 0));
        limit(later, 1, 1);
        saleIs(later, 10, 0, 1, -1);
    }

    private static void noBidderBehindAll() {
        RoughStones house = saleOf(bids(0, 5, 5), bids(0, 5, 5), bids(0, 5, 5));
        limit(house, 6, 1, 1);
        saleIs(house, 10, 1, 2, -1);
        RoughStones last = saleOf(bids(0, 0, 0, 5), bids(0, 0, 0, 5));
        limit(last, 6, 6, 6, 1);
        saleIs(last, 5, 3, -1);
    }

    private static void eachStoneByItsBit() {
        RoughStones house = houseOf(40);
        for (int first = 0; first < 40; first += 6) {
            for (int k = first; k < first + 6 && k < 40; k++) {
                Check.due("lot of " + k, k < 20 ? house.lot(1 << k, 0) : house.lot(0, 1 << k - 20), k - first);
                Check.due("its stone", house.told(k, 5), k - first);
            }
            house.sell();
        }
        Check.due("of the edges of both", house.lot(1 << 19 | 1, 1 << 19 | 1), 0);
        for (int k : new int[] {0, 19, 20, 39}) {
            Check.due("stone " + k, house.told(k, 5), 0);
        }
        for (int k : new int[] {1, 18, 21, 38}) {
            Check.due("stone " + k, house.told(k, 5), -1);
        }
    }

    private static void lotNumbers() {
        RoughStones house = houseOf(8);
        for (int k = 0; k < 6; k++) {
            Check.due("none takes no number", house.lot(0, 0), -1);
            Check.due("lot", house.lot(1 << k, 0), k);
            Check.due("lots", house.count(3), k + 1);
        }
        house.sell();
        Check.due("they begin anew", house.lot(1 << 7, 0), 0);
    }

    /** Stones 0 to 3 are two pairs, 0 and 1 in a lot; then all six lots are there. */
    private static void orderOfRefusals() {
        RoughStones house = houseOfPairs(20, 4);
        house.lot(0b11, 0);
        Check.due("too many, one in a lot, a pair lacks", house.lot(0xFFD, 0), -1);
        Check.due("one in a lot, a pair lacks", house.lot(0b101, 0), -2);
        Check.due("a pair lacks", house.lot(0b100, 0), -3);
        for (int k = 1; k < 6; k++) {
            house.lot(1 << 10 + k, 0);
        }
        Check.due("too many, six lots", house.lot(0x7FF, 0), -1);
        Check.due("none, six lots", house.lot(0, 0), -1);
        Check.due("one in a lot, six lots", house.lot(0b1, 0), -2);
        Check.due("a pair lacks, six lots", house.lot(0b100, 0), -3);
        Check.due("six lots", house.lot(0b1100, 0), -4);
        Check.dueThrow("no stone, too many", Check.ARGUMENT, () -> house.lot(0x7FF, 1));
        Check.dueThrow("no stone, one in a lot", Check.ARGUMENT, () -> house.lot(0b1, 1));
        Check.dueThrow("no stone, a pair lacks", Check.ARGUMENT, () -> house.lot(0b100, 1));
        Check.dueThrow("no stone, six lots", Check.ARGUMENT, () -> house.lot(0, 1));
    }

    private static void noneOrEleven() {
        RoughStones house = houseOf(40);
        Check.due("none", house.lot(0, 0), -1);
        Check.due("eleven of the first", house.lot(0x7FF, 0), -1);
        Check.due("eleven of the second", house.lot(0, 0x7FF), -1);
        Check.due("eleven of both", house.lot(0x3F, 0x1F), -1);
        Check.due("all", house.lot(0xFFFFF, 0xFFFFF), -1);
        Check.due("no lot", house.count(3), 0);
        Check.due("ten", house.lot(0x3FF, 0), 0);
        RoughStones empty = new RoughStones();
        Check.due("none of none", empty.lot(0, 0), -1);
    }

    private static void inALot() {
        RoughStones house = houseOf(22);
        house.lot(0b11, 0b10);
        Check.due("the first of it", house.lot(0b01, 0), -2);
        Check.due("the last of it", house.lot(0, 0b10), -2);
        Check.due("all of it", house.lot(0b11, 0b10), -2);
        Check.due("one of it among others", house.lot(0b110, 0b1), -2);
        Check.due("the others are in none", house.told(2, 5) + house.told(20, 5), -2);
        house.sell();
        Check.due("it was given to none", house.lot(0b11, 0b10), 0);
    }

    private static void soldInNoLot() {
        RoughStones house = houseOf(3);
        house.lot(0b001, 0);
        house.lot(0b010, 0);
        house.bid(3, 0, 1);
        house.sell();
        Check.due("sold", house.lot(0b001, 0), -2);
        Check.due("sold, with another", house.lot(0b101, 0), -2);
        Check.due("not sold", house.lot(0b010, 0), 0);
        house.sell();
        Check.due("sold two sales ago", house.lot(0b001, 0), -2);
    }

    private static void oneOfAPair() {
        RoughStones house = houseOfPairs(6, 4);
        for (int k = 0; k < 4; k++) {
            Check.due("half a pair, " + k, house.lot(1 << k, 0), -3);
        }
        Check.due("halves of two", house.lot(0b0101, 0), -3);
        Check.due("one pair and a half", house.lot(0b0111, 0), -3);
        Check.due("a half and one in no pair", house.lot(0b10001, 0), -3);
        Check.due("no lot", house.count(3), 0);
        Check.due("two pairs", house.lot(0b1111, 0), 0);
        RoughStones late = houseOf(2);
        late.lot(0b01, 0);
        for (int k = 0; k < 2; k++) {
            late.facet(k, 0, 0);
            late.polish(k);
        }
        late.match();
        Check.due("the mate is in a lot without it", late.lot(0b10, 0), -3);
        late.bid(0, 0, 1);
        late.sell();
        Check.due("the mate is sold without it", late.lot(0b10, 0), -3);
        Check.due("both, one sold", late.lot(0b11, 0), -2);
    }

    private static void seventhLot() {
        RoughStones house = houseOf(7);
        for (int k = 0; k < 5; k++) {
            house.lot(1 << k, 0);
        }
        Check.due("the sixth", house.lot(1 << 5, 0), 5);
        Check.due("a seventh", house.lot(1 << 6, 0), -4);
        Check.due("its stone is in none", house.told(6, 5), -1);
        Check.due("six", house.count(3), 6);
        Check.dueThrow("no bid for it", Check.ARGUMENT, () -> house.bid(0, 6, 1));
        house.sell();
        Check.due("there is room again", house.lot(1 << 6, 0), 0);
    }

    private static void bitsOfNoStone() {
        RoughStones house = houseOf(21);
        Check.dueThrow("the stone behind the last", Check.ARGUMENT, () -> house.lot(0, 0b10));
        Check.dueThrow("with good ones", Check.ARGUMENT, () -> house.lot(0b1, 0b11));
        for (int bit = 20; bit < 32; bit++) {
            int beyond = 1 << bit;
            Check.dueThrow("first number's bit " + bit, Check.ARGUMENT, () -> house.lot(beyond, 0));
            Check.dueThrow("with good ones", Check.ARGUMENT, () -> house.lot(beyond | 1, 1));
            Check.dueThrow("second number's bit " + bit, Check.ARGUMENT, () -> house.lot(1, beyond));
        }
        Check.dueThrow("all of the first", Check.ARGUMENT, () -> house.lot(-1, 0));
        Check.dueThrow("all of the second", Check.ARGUMENT, () -> house.lot(0, -1));
        Check.due("no lot", house.count(3), 0);
        Check.due("the last stone", house.lot(0, 1), 0);
        RoughStones few = houseOf(3);
        Check.dueThrow("the fourth of three", Check.ARGUMENT, () -> few.lot(0b1000, 0));
        RoughStones full = houseOf(40);
        Check.dueThrow("bit 20 is not stone 20", Check.ARGUMENT, () -> full.lot(1 << 20, 0));
        Check.dueThrow("bit 20 of the second", Check.ARGUMENT, () -> full.lot(0, 1 << 20));
        Check.due("the last of all", full.lot(0, 1 << 19), 0);
        RoughStones empty = new RoughStones();
        Check.dueThrow("without any", Check.ARGUMENT, () -> empty.lot(1, 0));
    }

    private static void eachBid() {
        RoughStones house = saleOf(bids(), bids(), bids(), bids(), bids(), bids());
        for (int lot = 0; lot < 6; lot++) {
            for (int bidder = 0; bidder < 4; bidder++) {
                Check.due("bid", house.bid(bidder, lot, 10 * lot + bidder + 1), 1);
            }
        }
        saleIs(house, 174, 3, 3, 3, 3, 3, 3);
    }

    private static void sealedAlready() {
        RoughStones house = saleOf(bids(5), bids());
        Check.due("again", house.bid(0, 0, 5), -1);
        Check.due("more", house.bid(0, 0, 1000000), -1);
        Check.due("for the other lot", house.bid(0, 1, 1), 1);
        Check.due("of another bidder", house.bid(1, 0, 1), 1);
        Check.due("which is sealed too", house.bid(1, 0, 9), -1);
        Check.dueThrow("a wrong bid comes ahead", Check.ARGUMENT, () -> house.bid(0, 0, 0));
        saleIs(house, 6, 0, 0);
    }

    private static void bidOfNoBidder() {
        RoughStones house = saleOf(bids(), bids());
        Check.dueThrows("bid", Check.INDEX, bidder -> house.bid(bidder, 0, 1), Check.outside(4));
        Check.dueThrows("ahead of the lot", Check.INDEX, bidder -> house.bid(bidder, 2, 1), Check.outside(4));
        Check.dueThrows("ahead of the bid", Check.INDEX, bidder -> house.bid(bidder, 0, 0), Check.outside(4));
        saleIs(house, 0, -1, -1);
    }

    private static void bidForNoLot() {
        RoughStones house = saleOf(bids(), bids());
        Check.dueThrows("bid", Check.ARGUMENT, lot -> house.bid(0, lot, 1), Check.outside(2));
        Check.due("the last one", house.bid(0, 1, 1), 1);
        house.sell();
        Check.dueThrow("behind a sale", Check.ARGUMENT, () -> house.bid(0, 0, 1));
        RoughStones full = saleOf(bids(), bids(), bids(), bids(), bids(), bids());
        Check.dueThrow("a seventh", Check.ARGUMENT, () -> full.bid(0, 6, 1));
        RoughStones empty = new RoughStones();
        Check.dueThrow("without any", Check.ARGUMENT, () -> empty.bid(0, 0, 1));
    }

    private static void wrongBid() {
        RoughStones house = saleOf(bids(), bids());
        Check.dueThrows("bid", Check.ARGUMENT, price -> house.bid(0, 0, price), Check.outside(1000001));
        Check.dueThrow("bid of 0", Check.ARGUMENT, () -> house.bid(0, 0, 0));
        Check.due("nothing was sealed", house.bid(0, 0, 1), 1);
        Check.due("the greatest", house.bid(0, 1, 1000000), 1);
        saleIs(house, 1000001, 0, 0);
    }

    private static void whatItWas() {
        RoughStones house = new RoughStones();
        for (int bidder = 0; bidder < 4; bidder++) {
            Check.due("six at first", house.most(bidder, 0), 6);
            for (int most = 1; most <= 6; most++) {
                Check.due("what was told", house.most(bidder, most), most - 1);
            }
        }
        house.most(2, 3);
        house.sell();
        Check.due("the others have their own", house.most(1, 6), 6);
        Check.due("it stays behind a sale", house.most(2, 6), 3);
    }

    /** 'So below' of promise 3 and promise 21: no such BIDDER. */
    private static void mostOfNoBidder() {
        RoughStones house = new RoughStones();
        Check.dueThrows("most", Check.INDEX, bidder -> house.most(bidder, 1), Check.outside(4));
        Check.dueThrows("ahead of the lots", Check.INDEX, bidder -> house.most(bidder, 7), Check.outside(4));
        for (int bidder = 0; bidder < 4; bidder++) {
            Check.due("nothing has changed", house.most(bidder, 6), 6);
        }
    }

    private static void wrongLimit() {
        RoughStones house = new RoughStones();
        Check.dueThrows("most", Check.ARGUMENT, most -> house.most(0, most), Check.outside(7));
        Check.due("nothing has changed", house.most(0, 0), 6);
        Check.dueThrows("most", Check.ARGUMENT, most -> house.most(0, most), Check.outside(7));
        Check.due("nothing has changed again", house.most(0, 6), 0);
    }

    private static void whatItBrings() {
        Check.due("without lots", new RoughStones().sell(), 0);
        Check.due("without bids", saleOf(bids(), bids()).sell(), 0);
        Check.due("the least", saleOf(bids(1)).sell(), 1);
        Check.due("two", saleOf(bids(1), bids(0, 2)).sell(), 3);
        RoughStones pair = houseOf(4);
        pair.lot(0b1011, 0);
        pair.bid(2, 0, 50);
        saleIs(pair, 50, 2, 2, -1, 2);
    }

    /** What was found for one sale is of no account for the next, of fewer LOTS. */
    private static void salesAreApart() {
        RoughStones house = saleOf(bids(0, 9), bids(9), bids(9), bids(9), bids(9), bids(9));
        limit(house, 0, 0);
        Check.due("nobody takes any", house.sell(), 0);
        limit(house, 6, 6);
        house.lot(0b01, 0);
        house.bid(0, 0, 8);
        house.bid(1, 0, 7);
        saleIs(house, 8, 0, -1);
        house.lot(0b10, 0);
        house.lot(0b100, 0);
        house.bid(2, 1, 1);
        saleIs(house, 1, 0, -1, 2);
    }

    private static void noLotsThen() {
        RoughStones house = saleOf(bids(1), bids());
        house.sell();
        Check.due("no lots", house.count(3), 0);
        Check.due("the sold one is in none", house.told(0, 5), -1);
        Check.due("the other too", house.told(1, 5), -1);
        Check.due("a second sale", house.sell(), 0);
        Check.due("brings nothing more", house.count(4), 1);
    }

    private static void noBidsThen() {
        RoughStones house = saleOf(bids(5, 6), bids());
        house.most(1, 0);
        house.most(0, 0);
        Check.due("nobody takes any", house.sell(), 0);
        limit(house, 6, 6);
        house.lot(0b01, 0);
        Check.due("the old bids are gone", house.sell(), 0);
        house.lot(0b01, 0);
        Check.due("not sealed any more", house.bid(1, 0, 2), 1);
        saleIs(house, 2, 1, -1);
    }

    private static void inNoneThen() {
        RoughStones house = saleOf(bids(5), bids(), bids());
        house.sell();
        for (int k = 1; k < 3; k++) {
            Check.due("in no lot", house.told(k, 5), -1);
            Check.due("not sold", house.told(k, 6), -1);
        }
        Check.due("in one again", house.lot(0b110, 0), 0);
        house.bid(1, 0, 4);
        saleIs(house, 4, 0, 1, 1);
    }

    private static void countsOfThings() {
        RoughStones house = houseOf(2);
        house.rough();
        house.rough();
        Check.model(house, "2x1@0,0");
        house.lot(0b01, 0);
        int[] want = {3, 2, 2, 1};
        for (int what = 0; what < 4; what++) {
            Check.due("count " + what, house.count(what), want[what]);
        }
        house.done(0);
        Check.due("stones stay", house.count(2), 2);
        Check.due("roughs stay", house.count(0), 3);
    }

    private static void broughtByAll() {
        RoughStones house = houseOf(40);
        Check.due("nothing yet", house.count(4), 0);
        int sum = 0;
        for (int from = 0; from < 36; from += 6) {
            for (int k = from; k < from + 6; k++) {
                house.lot(k < 20 ? 1 << k : 0, k < 20 ? 0 : 1 << k - 20);
                house.bid(k % 4, k - from, 1000000 - k);
                sum += 1000000 - k;
            }
            Check.due("not before the sale", house.count(4) < sum ? 1 : 0, 1);
            house.sell();
            Check.due("all sales", house.count(4), sum);
        }
    }

    private static void countsOfStepsAndBytes() {
        RoughStones house = new RoughStones();
        for (int k = 1; k <= 10; k++) {
            house.price(k, 0);
            Check.due("steps", house.count(5), k);
        }
        for (int k = 1; k <= 5; k++) {
            house.feed(0, 0, 0, 0, 0);
            Check.due("bytes", house.count(6), 20 * k);
        }
        house.model(3);
        Check.due("no bytes", house.count(6), 0);
    }

    private static void soldCounted() {
        RoughStones house = houseOf(40);
        house.lot(0x3FF, 0);
        house.lot(0x400, 0);
        house.lot(0, 0x3FF);
        house.bid(0, 0, 1);
        house.bid(0, 2, 1);
        Check.due("none yet", house.count(7), 0);
        house.sell();
        Check.due("those given to none are not", house.count(7), 20);
        house.lot(0x400, 1 << 19);
        house.bid(3, 0, 1);
        house.sell();
        Check.due("two more", house.count(7), 22);
    }

    private static void countOfOthers() {
        RoughStones house = saleOf(bids(1));
        for (int what : Check.outside(8)) {
            Check.due("count " + what, house.count(what), RoughStones.NONE);
        }
        Check.due("NONE itself", RoughStones.NONE, -1);
    }
}

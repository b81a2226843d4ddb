/** Promises 14 to 19: facet, round, plan, polish, told, match. */
public final class StonesTest {
    public static void main(String[] args) throws Exception {
        Sentences doc = new Sentences(args);
        wheelTerms(doc);
        pairTerms(doc);
        wheelPromises(doc);
        stonePromises(doc);
        doc.end();
    }

    private static void wheelTerms(Sentences doc) {
        int in = Sentences.TERMS;
        doc.takeTerms("STONES, numbered", "==== 4.");
        doc.holds(in, "STONES, numbered from 0 on, 40 at most.", StonesTest::fortyStones);
        doc.holds(in, "FACETS of a STONE: 8 at most,", StonesTest::eightFacets);
        doc.holds(in, "each an INDEX (0 to 95) and an ANGLE (0 to 90),", StonesTest::edgesOfFacets);
        doc.holds(in, "told before it is polished.", StonesTest::toldBefore);
        doc.holds(in, "ROUND: from INDEX 0, ANGLE 0 on", StonesTest::roundBegins);
        doc.holds(in, "to all FACETS, each once;", StonesTest::eachOnce);
        doc.holds(in, "from one to the next: the INDEX the shorter way about 96,", StonesTest::shorterWayAbout);
        doc.holds(in, "and twice how far the ANGLES are apart.", StonesTest::twiceTheAngles);
        doc.holds(in, "PLAN: the shortest ROUND,", StonesTest::shortestRound);
        doc.holds(in, "of these the first by FACETS' numbers, one behind another.", StonesTest::firstRound);
        doc.holds(in, "POLISHED (once,", StonesTest::polishedOnce);
        doc.holds(in, "with a FACET at least):", StonesTest::polishedWithFacet);
        doc.holds(in, "in the order of the PLAN", StonesTest::orderOfPlan);
        doc.holds(in, "each FACET takes ANGLE and 10 thousandths of the grains that are left,", StonesTest::eachTakes);
        doc.holds(in, "rounded up.", StonesTest::roundedUp);
    }

    private static void pairTerms(Sentences doc) {
        int in = Sentences.TERMS;
        doc.holds(in, "PAIRS: two STONES that are POLISHED,", StonesTest::unpolishedAreNone);
        doc.holds(in, "in no PAIR", StonesTest::pairedAreNone);
        doc.holds(in, "and not SOLD,", StonesTest::soldAreNone);
        doc.holds(in, "whose grains differ by 100 thousandths of the heavier one's at most.", StonesTest::nearEnough);
        doc.holds(in, "MATCHED, of the first ten such STONES:", StonesTest::firstTen);
        doc.holds(in, "MATCHED, of the first ten such STONES:", StonesTest::othersAreNotOfTheTen);
        doc.holds(in, "of all sets of PAIRS those with the most PAIRS;", StonesTest::mostPairs);
        doc.holds(in, "of these those whose differences come to least;", StonesTest::leastDifferences);
        doc.holds(in, "of these the first (STONE by STONE: the least one with which it is,", StonesTest::leastMates);
        doc.holds(in, "in none behind all).", StonesTest::noMateBehindAll);
    }

    private static void wheelPromises(Sentences doc) {
        doc.takePromises(14, 15, 16, 17);
        doc.holds(14, "A FACET: how many the STONE has;", StonesTest::facetsCounted);
        doc.holds(14, "-1: it is POLISHED;", StonesTest::facetOfPolished);
        doc.holds(14, "-2: it has 8", StonesTest::ninthFacet);
        doc.holds(14, "(the first of these).", StonesTest::polishedWithEight);
        doc.holds(14, "NoSuchElementException: no such STONE", StonesTest::facetOfNoStone);
        doc.holds(14, "(so below);", StonesTest::noStoneBelow);
        doc.holds(14, "IllegalArgumentException: INDEX", StonesTest::wrongIndex);
        doc.holds(14, "or ANGLE.", StonesTest::wrongAngle);
        doc.holds(15, "How long PLAN is;", StonesTest::lengthOfPlan);
        doc.holds(15, "How long PLAN is;", StonesTest::plansAreApart);
        doc.holds(15, "0 without FACETS.", StonesTest::noRound);
        doc.holds(16, "The k-th FACET of PLAN;", StonesTest::facetsOfPlan);
        doc.holds(16, "NONE.", StonesTest::outsideThePlan);
        doc.holds(17, "POLISHED: the grains then;", StonesTest::grainsThen);
        doc.holds(17, "-1: it was;", StonesTest::polishedBefore);
        doc.holds(17, "-2: it has no FACET.", StonesTest::polishWithoutFacet);
    }

    private static void stonePromises(Sentences doc) {
        doc.takePromises(18, 19);
        doc.holds(18, "Of a STONE: 0 grains, 1 its ROUGH, 2 its MODEL,", StonesTest::toldOfMaking);
        doc.holds(18, "3 whether it is POLISHED (1, 0),", StonesTest::toldPolished);
        doc.holds(18, "4 with which it is a PAIR (NONE),", StonesTest::toldPair);
        doc.holds(18, "5 its LOT (NONE),", StonesTest::toldLot);
        doc.holds(18, "6 the BIDDER that bought it (NONE).", StonesTest::toldBidder);
        doc.holds(18, "IllegalArgumentException: another what.", StonesTest::toldAnother);
        doc.holds(19, "MATCHED: how many PAIRS come.", StonesTest::pairsCounted);
    }

    /** A house of one stone of a cell, with facets of an index and an angle each. */
    private static RoughStones wheelOf(int... facets) {
        RoughStones house = Check.cubeHouse();
        Check.stone(house, 1);
        for (int k = 0; k + 1 < facets.length; k += 2) {
            house.facet(0, facets[k], facets[k + 1]);
        }
        return house;
    }

    private static void planIs(RoughStones house, int... want) {
        for (int k = 0; k < want.length; k++) {
            Check.due("plan(0, " + k + ") of " + want.length, house.plan(0, k), want[k]);
        }
        Check.due("behind the plan", house.plan(0, want.length), -1);
    }

    /** A house of polished stones of one cell each: the angles of the facets of each. */
    private static RoughStones polishedHouse(int[]... stones) {
        RoughStones house = Check.rowHouse();
        for (int[] angles : stones) {
            Check.polished(house, 1, angles);
        }
        return house;
    }

    private static int[] angles(int... angles) {
        return angles;
    }

    private static void matesAre(RoughStones house, int... want) {
        for (int stone = 0; stone < want.length; stone++) {
            Check.due("mate of " + stone, house.told(stone, 4), want[stone]);
        }
    }

    private static void sellStone(RoughStones house, int stone) {
        house.lot(1 << stone, 0);
        house.bid(0, house.count(3) - 1, 1);
        house.sell();
    }

    private static void fortyStones() {
        RoughStones house = Check.cubeHouse();
        for (int k = 0; k < 42; k++) {
            house.scan(0, 0, 1, 0);
            Check.due("stone " + k, house.done(0), k < 40 ? 1 : -1);
        }
        Check.due("forty", house.count(2), 40);
        Check.due("the first", house.told(0, 0), 1000);
        Check.due("the last", house.told(39, 0), 1000);
        Check.due("the last has facets", house.facet(39, 95, 90), 1);
        Check.due("the last is polished", house.polish(39), 900);
        Check.due("the first is not", house.polish(0), -2);
        Check.dueThrow("no 41st", Check.ELEMENT, () -> house.told(40, 0));
    }

    private static void eightFacets() {
        RoughStones house = wheelOf();
        for (int k = 0; k < 10; k++) {
            house.facet(0, 5 * k + 5, 0);
        }
        planIs(house, 0, 1, 2, 3, 4, 5, 6, 7);
        Check.due("a round of eight", house.round(0), 40);
        Check.stone(house, 1);
        Check.due("the other stone has its own", house.facet(1, 0, 0), 1);
    }

    private static void edgesOfFacets() {
        RoughStones house = wheelOf();
        Check.due("the least", house.facet(0, 0, 0), 1);
        Check.due("the greatest index", house.facet(0, 95, 0), 2);
        Check.due("the greatest angle", house.facet(0, 0, 90), 3);
        Check.due("both", house.facet(0, 95, 90), 4);
        Check.due("the same again", house.facet(0, 95, 90), 5);
    }

    private static void toldBefore() {
        RoughStones house = wheelOf(10, 20);
        house.polish(0);
        house.facet(0, 0, 90);
        Check.due("no second facet", house.plan(0, 1), -1);
        Check.due("the round stays", house.round(0), 50);
        Check.due("the grains stay", house.told(0, 0), 970);
    }

    private static void roundBegins() {
        Check.due("to the beginning itself", wheelOf(0, 0).round(0), 0);
        Check.due("to an index", wheelOf(7, 0).round(0), 7);
        Check.due("to an angle", wheelOf(0, 90).round(0), 180);
        Check.due("to both, and not back", wheelOf(20, 30).round(0), 80);
        planIs(wheelOf(30, 0, 20, 0, 10, 0), 2, 1, 0);
    }

    private static void eachOnce() {
        Check.due("the same twice", wheelOf(9, 1, 9, 1).round(0), 11);
        planIs(wheelOf(9, 1, 9, 1), 0, 1);
        Check.due("one lies on the way", wheelOf(10, 0, 5, 0).round(0), 10);
        Check.due("one lies on the other side", wheelOf(10, 0, 91, 0).round(0), 20);
        RoughStones eight = wheelOf(0, 0, 0, 0, 0, 0, 0, 0, 0, 0, 0, 0, 0, 0, 48, 90);
        Check.due("seven at the beginning", eight.round(0), 228);
        planIs(eight, 0, 1, 2, 3, 4, 5, 6, 7);
    }

    private static void shorterWayAbout() {
        for (int index = 0; index < 96; index++) {
            Check.due("to " + index, wheelOf(index, 0).round(0), index <= 48 ? index : 96 - index);
        }
        Check.due("from 95 past 0 to 5", wheelOf(95, 0, 5, 0).round(0), 7);
        Check.due("from 90 past 0 to 10", wheelOf(90, 0, 10, 0).round(0), 22);
        Check.due("from 47 past 48 to 49", wheelOf(47, 0, 49, 0).round(0), 49);
        Check.due("from 24 half about to 72", wheelOf(24, 0, 72, 0).round(0), 72);
        Check.due("from 24 to 73, the other way", wheelOf(24, 0, 73, 0).round(0), 70);
        Check.due("from 1 up to 95", wheelOf(1, 45, 95, 45).round(0), 93);
    }

    private static void twiceTheAngles() {
        for (int angle = 0; angle <= 90; angle++) {
            Check.due("to " + angle, wheelOf(0, angle).round(0), 2 * angle);
        }
        Check.due("up by steps", wheelOf(0, 30, 0, 90).round(0), 180);
        Check.due("up and down again", wheelOf(48, 0, 0, 90).round(0), 276);
        Check.due("the index counts once", wheelOf(10, 10, 20, 20).round(0), 60);
        planIs(wheelOf(21, 0, 0, 10), 1, 0);
        planIs(wheelOf(19, 0, 0, 10), 0, 1);
    }

    /** The nearest one first would be a longer round. */
    private static void shortestRound() {
        RoughStones near = wheelOf(4, 0, 91, 0, 20, 0);
        Check.due("length", near.round(0), 30);
        planIs(near, 1, 0, 2);
        RoughStones high = wheelOf(90, 40, 10, 40, 50, 0);
        Check.due("length", high.round(0), 182);
        planIs(high, 2, 0, 1);
        RoughStones back = wheelOf(40, 0, 35, 0, 30, 0, 25, 0, 20, 0, 15, 0, 10, 0, 5, 0);
        Check.due("length", back.round(0), 40);
        planIs(back, 7, 6, 5, 4, 3, 2, 1, 0);
    }

    private static void firstRound() {
        planIs(wheelOf(10, 0, 86, 0), 0, 1);
        planIs(wheelOf(86, 0, 10, 0), 0, 1);
        planIs(wheelOf(0, 0, 10, 0, 86, 0), 0, 1, 2);
        planIs(wheelOf(10, 0, 0, 0, 86, 0), 0, 1, 2);
        planIs(wheelOf(10, 0, 86, 0, 5, 0), 0, 2, 1);
        planIs(wheelOf(10, 0, 86, 0, 5, 0, 91, 0), 0, 2, 3, 1);
        planIs(wheelOf(48, 0, 48, 0, 48, 0), 0, 1, 2);
        planIs(wheelOf(10, 0, 5, 0, 10, 0, 5, 0), 1, 3, 0, 2);
        planIs(wheelOf(7, 7, 7, 7, 7, 7, 7, 7, 7, 7, 7, 7, 7, 7, 7, 7), 0, 1, 2, 3, 4, 5, 6, 7);
        planIs(wheelOf(20, 0, 76, 0, 20, 0, 76, 0), 0, 2, 1, 3);
    }

    private static void polishedOnce() {
        RoughStones house = wheelOf(0, 90);
        house.polish(0);
        house.polish(0);
        house.polish(0);
        Check.due("taken once", house.told(0, 0), 900);
    }

    private static void polishedWithFacet() {
        RoughStones house = wheelOf();
        house.polish(0);
        Check.due("not polished", house.told(0, 3), 0);
        Check.due("all its grains", house.told(0, 0), 1000);
        Check.due("a facet may come", house.facet(0, 0, 0), 1);
        Check.due("then it is", house.polish(0), 990);
    }

    /** 990, 980, 931; in the order of their numbers it would be 950, 940, 930. */
    private static void orderOfPlan() {
        RoughStones house = wheelOf(0, 40, 0, 0, 0, 0);
        planIs(house, 1, 2, 0);
        Check.due("from the least angle up", house.polish(0), 931);
        RoughStones other = wheelOf(0, 0, 0, 0, 0, 40);
        Check.due("told in that order", other.polish(0), 931);
        RoughStones about = wheelOf(30, 40, 80, 0, 80, 0);
        planIs(about, 1, 2, 0);
        Check.due("the plan goes about", about.polish(0), 931);
    }

    private static void eachTakes() {
        for (int angle = 0; angle <= 90; angle++) {
            Check.due("angle " + angle, wheelOf(0, angle).polish(0), 990 - angle);
        }
        Check.due("of what is left", wheelOf(0, 90, 0, 90).polish(0), 810);
        RoughStones eight = wheelOf(0, 90, 0, 90, 0, 90, 0, 90, 0, 90, 0, 90, 0, 90, 0, 90);
        Check.due("eight times a tenth", eight.polish(0), 429);
        RoughStones large = Check.cubeHouse();
        Check.fill(large, 0);
        large.done(0);
        large.facet(0, 0, 90);
        large.facet(0, 0, 90);
        Check.due("of the heaviest", large.polish(0), 174960);
    }

    /** 990 less 9.9 is 980; 989 less 10.879 is 978; 973 less 36.001 is 936; 989 less 89.999 is 899. */
    private static void roundedUp() {
        Check.due("by a tenth of a grain", wheelOf(0, 0, 0, 0).polish(0), 980);
        Check.due("by more", wheelOf(0, 1, 0, 1).polish(0), 978);
        Check.due("by nearly a whole grain", wheelOf(0, 17, 0, 27).polish(0), 936);
        Check.due("by a thousandth of one", wheelOf(0, 1, 0, 81).polish(0), 899);
        Check.due("a whole number stays", wheelOf(0, 0, 0, 90).polish(0), 891);
    }

    private static void unpolishedAreNone() {
        RoughStones house = polishedHouse(angles(0));
        Check.stone(house, 1);
        house.facet(1, 0, 0);
        Check.due("one is not polished", house.match(), 0);
        Check.stone(house, 1);
        Check.due("two are not", house.match(), 0);
        house.polish(1);
        Check.due("now it is", house.match(), 1);
        matesAre(house, 1, 0, -1);
    }

    private static void pairedAreNone() {
        RoughStones house = polishedHouse(angles(0), angles(5));
        Check.due("a pair", house.match(), 1);
        Check.polished(house, 1, 0);
        Check.due("a nearer one comes too late", house.match(), 0);
        matesAre(house, 1, 0, -1);
        Check.polished(house, 1, 5);
        Check.due("a later pair", house.match(), 1);
        matesAre(house, 1, 0, 3, 2);
    }

    private static void soldAreNone() {
        RoughStones house = polishedHouse(angles(0), angles(0), angles(0));
        sellStone(house, 1);
        house.lot(0b001, 0);
        Check.due("one in a lot is matched, one sold is not", house.match(), 1);
        matesAre(house, 2, -1, 0);
        RoughStones left = polishedHouse(angles(0), angles(0));
        sellStone(left, 0);
        Check.due("one is left", left.match(), 0);
        RoughStones back = polishedHouse(angles(0), angles(0));
        back.lot(0b01, 0);
        back.sell();
        Check.due("one given to none is matched", back.match(), 1);
    }

    /** A tenth of 990 is 99, of 985 98.5, of 194,400 19,440. */
    private static void nearEnough() {
        nearness(990, 891, 1, angles(0), angles(0, 90));
        nearness(990, 890, 0, angles(0), angles(1, 90));
        nearness(985, 887, 1, angles(5), angles(5, 89));
        nearness(985, 886, 0, angles(5), angles(5, 90));
        nearness(900, 810, 1, angles(90), angles(90, 90));
        nearness(900, 809, 0, angles(90), angles(0, 81, 90));
        nearness(950, 950, 1, angles(40), angles(40));
        RoughStones cells = Check.rowHouse();
        Check.polished(cells, 1, 0);
        Check.polished(cells, 2, 0);
        Check.polished(cells, 6, 0);
        Check.due("of other weights", cells.match(), 0);
        heavyNearness(angles(1, 81, 89), 174959, 0);
        heavyNearness(angles(90, 90), 174960, 1);
    }

    private static void nearness(int one, int other, int pairs, int[] angles, int[] otherAngles) {
        RoughStones house = polishedHouse(angles, otherAngles);
        Check.due("grains", house.told(0, 0), one);
        Check.due("grains of the other", house.told(1, 0), other);
        Check.due(one + " and " + other, house.match(), pairs);
        RoughStones turned = polishedHouse(otherAngles, angles);
        Check.due(other + " and " + one, turned.match(), pairs);
    }

    private static void heavyNearness(int[] angles, int grains, int pairs) {
        RoughStones house = Check.cubeHouse();
        for (int stone = 0; stone < 2; stone++) {
            Check.fill(house, 0);
            house.done(0);
            for (int angle : stone == 0 ? angles(90) : angles) {
                house.facet(stone, 0, angle);
            }
            house.polish(stone);
        }
        Check.due("one", house.told(0, 0), 194400);
        Check.due("the other", house.told(1, 0), grains);
        Check.due("a pair of heavy ones", house.match(), pairs);
    }

    private static void firstTen() {
        RoughStones house = Check.rowHouse();
        for (int cells = 1; cells <= 6; cells++) {
            Check.polished(house, cells, 90);
        }
        for (int k = 0; k < 4; k++) {
            Check.polished(house, 1, 0, 90, 90);
        }
        Check.polished(house, 6, 90);
        Check.polished(house, 1, 0);
        Check.due("of the first ten alone", house.match(), 2);
        matesAre(house, -1, -1, -1, -1, -1, -1, 7, 6, 9, 8, -1, -1);
        Check.due("then of the next", house.match(), 2);
        matesAre(house, 11, -1, -1, -1, -1, 10, 7, 6, 9, 8, 5, 0);
        RoughStones ten = polishedHouse(new int[10][1]);
        Check.due("ten make five", ten.match(), 5);
        matesAre(ten, 1, 0, 3, 2, 5, 4, 7, 6, 9, 8);
        RoughStones more = polishedHouse(new int[12][1]);
        Check.due("twelve make five", more.match(), 5);
        Check.due("then one", more.match(), 1);
        Check.due("then none", more.match(), 0);
    }

    /** A pair, one sold and one unpolished come ahead of ten others, of which the last two are a pair. */
    private static void othersAreNotOfTheTen() {
        RoughStones house = polishedHouse(angles(0), angles(0), angles(0));
        sellStone(house, 2);
        house.match();
        Check.stone(house, 1);
        for (int cells = 1; cells <= 6; cells++) {
            Check.polished(house, cells, 0);
        }
        Check.polished(house, 1, 90, 90, 90, 90);
        Check.polished(house, 2, 90, 90, 90, 90);
        Check.polished(house, 3, 90, 90, 90);
        Check.polished(house, 3, 90, 90, 90);
        Check.polished(house, 6, 0);
        Check.due("the tenth is looked at, the eleventh is not", house.match(), 1);
        Check.due("the ninth with the tenth", house.told(12, 4), 13);
        Check.due("then the eleventh is among the ten", house.match(), 1);
        Check.due("the sixth with it", house.told(9, 4), 14);
    }

    /** 920 and 900 are the nearest, but 990 and 811 would be left without a mate. */
    private static void mostPairs() {
        RoughStones house = polishedHouse(angles(0), angles(70), angles(90), angles(88, 90));
        Check.due("the last", house.told(3, 0), 811);
        Check.due("two", house.match(), 2);
        matesAre(house, 1, 0, 3, 2);
        RoughStones turned = polishedHouse(angles(70), angles(90), angles(0), angles(88, 90));
        Check.due("two", turned.match(), 2);
        matesAre(turned, 2, 3, 0, 1);
    }

    /** 900, 970, 940, 930: neither the first mates (0 with 1) nor the nearest two (2 with 3). */
    private static void leastDifferences() {
        RoughStones house = polishedHouse(angles(90), angles(20), angles(50), angles(60));
        Check.due("two", house.match(), 2);
        matesAre(house, 3, 2, 1, 0);
        RoughStones three = polishedHouse(angles(90), angles(60), angles(88));
        Check.due("one", three.match(), 1);
        matesAre(three, 2, -1, 0);
        RoughStones last = polishedHouse(angles(90), angles(60), angles(61));
        Check.due("one", last.match(), 1);
        matesAre(last, -1, 2, 1);
    }

    /** 900, 910, 910, 920: all ways come to 20. */
    private static void leastMates() {
        RoughStones house = polishedHouse(angles(90), angles(80), angles(80), angles(70));
        Check.due("two", house.match(), 2);
        matesAre(house, 1, 0, 3, 2);
        RoughStones turned = polishedHouse(angles(80), angles(90), angles(70), angles(80));
        Check.due("two", turned.match(), 2);
        matesAre(turned, 1, 0, 3, 2);
        RoughStones same = polishedHouse(new int[6][1]);
        Check.due("three", same.match(), 3);
        matesAre(same, 1, 0, 3, 2, 5, 4);
    }

    private static void noMateBehindAll() {
        RoughStones same = polishedHouse(new int[5][1]);
        Check.due("of five", same.match(), 2);
        matesAre(same, 1, 0, 3, 2, -1);
        RoughStones steps = polishedHouse(angles(90), angles(80), angles(70));
        Check.due("of three, ten apart", steps.match(), 1);
        matesAre(steps, 1, 0, -1);
        RoughStones turned = polishedHouse(angles(80), angles(70), angles(90));
        Check.due("of three, ten apart", turned.match(), 1);
        matesAre(turned, 1, 0, -1);
    }

    private static void facetsCounted() {
        RoughStones house = wheelOf();
        Check.stone(house, 1);
        for (int k = 1; k <= 8; k++) {
            Check.due("facet", house.facet(0, 12 * k - 1, k), k);
        }
        Check.due("of the other stone", house.facet(1, 0, 0), 1);
    }

    private static void facetOfPolished() {
        RoughStones house = wheelOf(0, 0);
        house.polish(0);
        Check.due("one more", house.facet(0, 0, 0), -1);
        Check.due("still one", house.plan(0, 1), -1);
        Check.dueThrow("a wrong index comes ahead", Check.ARGUMENT, () -> house.facet(0, 96, 0));
        Check.dueThrow("a wrong angle comes ahead", Check.ARGUMENT, () -> house.facet(0, 0, 91));
    }

    private static void ninthFacet() {
        RoughStones house = wheelOf(1, 0, 2, 0, 3, 0, 4, 0, 5, 0, 6, 0, 7, 0);
        Check.due("the eighth", house.facet(0, 8, 0), 8);
        Check.due("a ninth", house.facet(0, 48, 90), -2);
        Check.due("the round stays", house.round(0), 8);
        Check.dueThrow("a wrong index comes ahead", Check.ARGUMENT, () -> house.facet(0, -1, 0));
        Check.dueThrow("a wrong angle comes ahead", Check.ARGUMENT, () -> house.facet(0, 0, -1));
    }

    private static void polishedWithEight() {
        RoughStones house = wheelOf(1, 0, 2, 0, 3, 0, 4, 0, 5, 0, 6, 0, 7, 0, 8, 0);
        Check.due("eight", house.facet(0, 0, 0), -2);
        house.polish(0);
        Check.due("polished too", house.facet(0, 0, 0), -1);
    }

    private static void facetOfNoStone() {
        RoughStones house = wheelOf();
        Check.dueThrows("facet", Check.ELEMENT, k -> house.facet(k, 0, 0), Check.outside(1));
        Check.dueThrows("ahead of the index", Check.ELEMENT, k -> house.facet(k, 96, 91), Check.outside(1));
        RoughStones empty = Check.cubeHouse();
        Check.dueThrow("without any", Check.ELEMENT, () -> empty.facet(0, 0, 0));
    }

    private static void noStoneBelow() {
        RoughStones house = wheelOf(0, 0);
        Check.stone(house, 1);
        int[] outside = Check.outside(2);
        Check.dueThrows("round", Check.ELEMENT, house::round, outside);
        Check.dueThrows("plan", Check.ELEMENT, k -> house.plan(k, 0), outside);
        Check.dueThrows("plan, ahead of the facet", Check.ELEMENT, k -> house.plan(k, -1), outside);
        Check.dueThrows("polish", Check.ELEMENT, house::polish, outside);
        Check.dueThrows("told", Check.ELEMENT, k -> house.told(k, 0), outside);
        Check.dueThrows("told, ahead of what", Check.ELEMENT, k -> house.told(k, 7), outside);
    }

    private static void wrongIndex() {
        RoughStones house = wheelOf();
        Check.dueThrows("index", Check.ARGUMENT, index -> house.facet(0, index, 0), Check.outside(96));
        Check.due("none came", house.plan(0, 0), -1);
        Check.due("the greatest", house.facet(0, 95, 0), 1);
        Check.due("the least", house.facet(0, 0, 0), 2);
    }

    private static void wrongAngle() {
        RoughStones house = wheelOf();
        Check.dueThrows("angle", Check.ARGUMENT, angle -> house.facet(0, 0, angle), Check.outside(91));
        Check.due("none came", house.plan(0, 0), -1);
        Check.due("the greatest", house.facet(0, 0, 90), 1);
        Check.due("the least", house.facet(0, 0, 0), 2);
    }

    private static void lengthOfPlan() {
        RoughStones house = wheelOf();
        int[] want = {1, 48, 228, 228};
        int[][] facets = {{95, 0}, {48, 0}, {48, 90}, {48, 90}};
        for (int k = 0; k < 4; k++) {
            house.facet(0, facets[k][0], facets[k][1]);
            Check.due("with " + (k + 1), house.round(0), want[k]);
            Check.due("asked again", house.round(0), want[k]);
        }
        house.polish(0);
        Check.due("when it is polished", house.round(0), 228);
        Check.due("up and about once", wheelOf(48, 90, 0, 0, 48, 90, 0, 0).round(0), 228);
    }

    /** What was found for one stone is of no account for the next. */
    private static void plansAreApart() {
        RoughStones house = wheelOf(0, 90, 48, 0, 24, 45, 72, 90, 12, 0, 90, 30, 60, 60, 36, 15);
        house.round(0);
        for (int facets = 1; facets <= 7; facets++) {
            int stone = Check.stone(house, 1);
            for (int k = 0; k < facets; k++) {
                house.facet(stone, facets - k, 0);
            }
            Check.due("a round of " + facets, house.round(stone), facets);
            Check.due("its first", house.plan(stone, 0), facets - 1);
            Check.due("its last", house.plan(stone, facets - 1), 0);
        }
    }

    private static void noRound() {
        RoughStones house = wheelOf();
        Check.due("none", house.round(0), 0);
        house.polish(0);
        Check.due("none, still", house.round(0), 0);
        house.facet(0, 0, 1);
        Check.stone(house, 1);
        Check.due("none of a later stone", house.round(1), 0);
        Check.due("of the first", house.round(0), 2);
        Check.due("none of the later one, still", house.round(1), 0);
    }

    private static void facetsOfPlan() {
        RoughStones house = wheelOf(10, 0);
        planIs(house, 0);
        house.facet(0, 5, 0);
        planIs(house, 1, 0);
        house.facet(0, 3, 0);
        planIs(house, 2, 1, 0);
        house.polish(0);
        planIs(house, 2, 1, 0);
        RoughStones eight = wheelOf(8, 0, 1, 0, 7, 0, 2, 0, 6, 0, 3, 0, 5, 0, 4, 0);
        planIs(eight, 1, 3, 5, 7, 6, 4, 2, 0);
    }

    private static void outsideThePlan() {
        RoughStones house = wheelOf();
        for (int facets = 0; facets <= 8; facets++) {
            for (int k : Check.outside(facets)) {
                Check.due("plan(0, " + k + ") of " + facets, house.plan(0, k), -1);
            }
            house.facet(0, 0, 0);
        }
    }

    private static void grainsThen() {
        RoughStones house = wheelOf(0, 40);
        Check.due("the answer", house.polish(0), 950);
        Check.due("the grains", house.told(0, 0), 950);
        Check.due("polished", house.told(0, 3), 1);
    }

    private static void polishedBefore() {
        RoughStones house = wheelOf(0, 40);
        house.polish(0);
        Check.due("again", house.polish(0), -1);
        Check.due("and again", house.polish(0), -1);
        Check.due("grains stay", house.told(0, 0), 950);
    }

    private static void polishWithoutFacet() {
        RoughStones house = wheelOf();
        Check.due("no facet", house.polish(0), -2);
        Check.due("again", house.polish(0), -2);
        Check.due("not polished", house.told(0, 3), 0);
        Check.due("grains stay", house.told(0, 0), 1000);
    }

    private static void toldOfMaking() {
        RoughStones house = Check.rowHouse();
        for (int k = 1; k < 10; k++) {
            house.rough();
        }
        house.scan(9, 5, 0b111111, 0);
        house.done(9);
        Check.stone(house, 3);
        int[][] want = {{6000, 9, 5, 0, -1, -1, -1}, {3000, 0, 2, 0, -1, -1, -1}};
        for (int stone = 0; stone < 2; stone++) {
            for (int what = 0; what <= 6; what++) {
                Check.due("told " + stone + " " + what, house.told(stone, what), want[stone][what]);
            }
        }
    }

    private static void toldPolished() {
        RoughStones house = wheelOf(0, 0);
        Check.stone(house, 1);
        Check.due("not yet", house.told(0, 3), 0);
        house.polish(0);
        Check.due("now", house.told(0, 3), 1);
        Check.due("not the other one", house.told(1, 3), 0);
    }

    private static void toldPair() {
        RoughStones house = polishedHouse(angles(0), angles(90, 90), angles(0));
        matesAre(house, -1, -1, -1);
        house.match();
        matesAre(house, 2, -1, 0);
        house.lot(0b101, 0);
        house.bid(1, 0, 7);
        house.sell();
        matesAre(house, 2, -1, 0);
    }

    private static void toldLot() {
        RoughStones house = polishedHouse(angles(0), angles(0), angles(0));
        Check.due("in none", house.told(0, 5), -1);
        house.lot(0b100, 0);
        house.lot(0b001, 0);
        Check.due("in the second", house.told(0, 5), 1);
        Check.due("in none", house.told(1, 5), -1);
        Check.due("in the first", house.told(2, 5), 0);
        house.bid(3, 0, 1);
        house.sell();
        Check.due("given to none", house.told(0, 5), -1);
        Check.due("sold", house.told(2, 5), -1);
    }

    private static void toldBidder() {
        RoughStones house = polishedHouse(angles(0), angles(0), angles(0), angles(0), angles(0));
        for (int k = 0; k < 4; k++) {
            house.lot(1 << k, 0);
            house.bid(3 - k, k, 5);
            Check.due("not yet", house.told(k, 6), -1);
        }
        house.sell();
        for (int k = 0; k < 4; k++) {
            Check.due("bought", house.told(k, 6), 3 - k);
        }
        Check.due("in no lot", house.told(4, 6), -1);
        house.sell();
        Check.due("it stays with another sale", house.told(0, 6), 3);
    }

    private static void toldAnother() {
        RoughStones house = wheelOf();
        Check.dueThrows("told", Check.ARGUMENT, what -> house.told(0, what), Check.outside(7));
    }

    private static void pairsCounted() {
        RoughStones house = Check.rowHouse();
        Check.due("of no stones", house.match(), 0);
        Check.polished(house, 1, 0);
        Check.due("of one", house.match(), 0);
        Check.polished(house, 1, 0);
        Check.due("of two", house.match(), 1);
        Check.due("those that come, not those that are", house.match(), 0);
        for (int k = 0; k < 4; k++) {
            Check.polished(house, 1, 0);
        }
        Check.due("two more", house.match(), 2);
        matesAre(house, 1, 0, 3, 2, 5, 4);
    }
}

/** Promises 14 to 19: facet, round, plan, polish, told, match. */
public final class StonesTest {
    public static void main(String[] args) {
        facets();
        rounds();
        plans();
        polishing();
        roundedUp();
        told();
        pairs();
        pairsThatAreNone();
        heavyPairs();
        mostPairsFirst();
        firstOfTheSame();
        firstTen();
        Check.end();
    }

    private static void facets() {
        RoughStones house = Check.cubeHouse();
        Check.stone(house, 1);
        Check.dueThrow("stone 1", Check.ELEMENT, () -> house.facet(1, 96, 91));
        Check.dueThrow("stone -1", Check.ELEMENT, () -> house.facet(-1, 0, 0));
        Check.dueThrow("index -1", Check.ARGUMENT, () -> house.facet(0, -1, 0));
        Check.dueThrow("index 96", Check.ARGUMENT, () -> house.facet(0, 96, 0));
        Check.dueThrow("angle -1", Check.ARGUMENT, () -> house.facet(0, 0, -1));
        Check.dueThrow("angle 91", Check.ARGUMENT, () -> house.facet(0, 0, 91));
        for (int k = 1; k <= 8; k++) {
            Check.due("facet", house.facet(0, 95, 90), k);
        }
        Check.due("a 9th", house.facet(0, 0, 0), -2);
        Check.dueThrow("wrong index of a 9th", Check.ARGUMENT, () -> house.facet(0, 96, 0));
        house.polish(0);
        Check.due("polished ahead of full", house.facet(0, 0, 0), -1);
        Check.dueThrow("wrong angle when polished", Check.ARGUMENT, () -> house.facet(0, 0, 91));
    }

    private static void rounds() {
        RoughStones house = Check.cubeHouse();
        Check.stone(house, 1);
        Check.due("without facets", house.round(0), 0);
        house.facet(0, 95, 0);
        Check.due("the shorter way about", house.round(0), 1);
        house.facet(0, 48, 0);
        Check.due("half about, from there", house.round(0), 48);
        house.facet(0, 48, 90);
        Check.due("twice the angle", house.round(0), 228);
        house.facet(0, 48, 90);
        Check.due("the same again costs nothing", house.round(0), 228);
        Check.dueThrow("round(1)", Check.ELEMENT, () -> house.round(1));
        Check.dueThrow("round(-1)", Check.ELEMENT, () -> house.round(-1));
    }

    private static void plans() {
        RoughStones house = Check.cubeHouse();
        Check.stone(house, 1);
        Check.due("without facets", house.plan(0, 0), -1);
        house.facet(0, 10, 0);
        house.facet(0, 86, 0);
        order(house, 0, 1);
        Check.due("either way is as long", house.round(0), 30);
        house.facet(0, 5, 0);
        order(house, 0, 2, 1);
        house.facet(0, 5, 0);
        order(house, 0, 2, 3, 1);
        Check.due("none below", house.plan(0, -1), -1);
        Check.dueThrow("plan(1, 0)", Check.ELEMENT, () -> house.plan(1, 0));

        RoughStones eight = Check.cubeHouse();
        Check.stone(eight, 1);
        for (int k = 0; k < 8; k++) {
            eight.facet(0, 40 - 5 * k, 0);
        }
        order(eight, 7, 6, 5, 4, 3, 2, 1, 0);
        eight.polish(0);
        order(eight, 7, 6, 5, 4, 3, 2, 1, 0);
        Check.due("length", eight.round(0), 40);
    }

    private static void order(RoughStones house, int... want) {
        for (int k = 0; k < want.length; k++) {
            Check.due("plan(0, " + k + ") of " + want.length, house.plan(0, k), want[k]);
        }
        Check.due("behind the plan", house.plan(0, want.length), -1);
    }

    private static void polishing() {
        RoughStones house = Check.cubeHouse();
        Check.stone(house, 1);
        Check.due("no facet", house.polish(0), -2);
        Check.due("not polished", house.told(0, 3), 0);
        house.facet(0, 0, 90);
        Check.due("a tenth", house.polish(0), 900);
        Check.due("polished", house.told(0, 3), 1);
        Check.due("once", house.polish(0), -1);
        Check.due("grains stay", house.told(0, 0), 900);
        Check.dueThrow("polish(1)", Check.ELEMENT, () -> house.polish(1));
        Check.dueThrow("polish(-1)", Check.ELEMENT, () -> house.polish(-1));
    }

    /** 1000 less 10 is 990; of that 95 thousandths are 94.05, so 95; the other order takes 95, then 9.05, so 10. */
    private static void roundedUp() {
        RoughStones house = Check.cubeHouse();
        Check.stone(house, 1);
        house.facet(0, 0, 85);
        house.facet(0, 0, 0);
        Check.due("in the order of the plan", house.plan(0, 0), 1);
        Check.due("each part rounded up", house.polish(0), 895);
        Check.stone(house, 1);
        house.facet(1, 0, 1);
        house.facet(1, 0, 1);
        Check.due("989 less 10.879", house.polish(1), 978);
    }

    private static void told() {
        RoughStones house = Check.rowHouse();
        Check.stone(house, 3);
        int[] want = {3000, 0, 2, 0, -1, -1, -1};
        for (int what = 0; what <= 6; what++) {
            Check.due("told of a new stone " + what, house.told(0, what), want[what]);
        }
        Check.dueThrow("told -1", Check.ARGUMENT, () -> house.told(0, -1));
        Check.dueThrow("told 7", Check.ARGUMENT, () -> house.told(0, 7));
        Check.dueThrow("stone ahead of what", Check.ELEMENT, () -> house.told(1, 7));
        Check.dueThrow("stone -1", Check.ELEMENT, () -> house.told(-1, 0));
    }

    private static int polished(RoughStones house, int cells, int... angles) {
        int stone = Check.stone(house, cells);
        for (int angle : angles) {
            house.facet(stone, 0, angle);
        }
        house.polish(stone);
        return stone;
    }

    private static void pairs() {
        RoughStones house = Check.rowHouse();
        polished(house, 1, 0);
        polished(house, 2, 0);
        polished(house, 1, 0);
        Check.due("a pair", house.match(), 1);
        Check.due("of 0", house.told(0, 4), 2);
        Check.due("of 2", house.told(2, 4), 0);
        Check.due("not of 1", house.told(1, 4), -1);
        Check.due("no more", house.match(), 0);
        polished(house, 2, 0);
        Check.due("a later one", house.match(), 1);
        Check.due("of 1", house.told(1, 4), 3);
        Check.due("the first pair stays", house.told(0, 4), 2);
    }

    /** 990 and 900 are 90 apart, 99 would do; 990 and 891 are 99 apart; 990 and 890 are 100 apart. */
    private static void pairsThatAreNone() {
        RoughStones house = Check.rowHouse();
        polished(house, 1, 0);
        Check.stone(house, 1);
        Check.due("an unpolished one", house.match(), 0);
        polished(house, 1, 0, 90);
        Check.due("891", house.told(2, 0), 891);
        Check.due("just as far apart as may be", house.match(), 1);

        RoughStones wide = Check.rowHouse();
        polished(wide, 1, 0);
        polished(wide, 1, 0, 0, 80);
        Check.due("891 or less", wide.told(1, 0), 891);
        polished(wide, 1, 0, 0, 0, 70);
        Check.due("two of three", wide.match(), 1);

        RoughStones far = Check.rowHouse();
        polished(far, 1, 0);
        polished(far, 1, 0, 1, 80);
        Check.due("890", far.told(1, 0), 890);
        Check.due("too far apart", far.match(), 0);
    }

    /** Of 216,000 grains each: 213,840 and 192,456 are a tenth apart to the grain, 192,261 is a little further. */
    private static void heavyPairs() {
        RoughStones house = Check.cubeHouse();
        int[][] angles = {{0}, {90, 1}, {90, 0}};
        int[] grains = {213840, 192261, 192456};
        for (int stone = 0; stone < 3; stone++) {
            Check.fill(house, 0);
            house.done(0);
            for (int angle : angles[stone]) {
                house.facet(stone, 0, angle);
            }
            Check.due("heavy stone " + stone, house.polish(stone), grains[stone]);
            if (stone == 1) {
                Check.due("a little too far", house.match(), 0);
            }
        }
        house.lot(0b10, 0);
        house.bid(0, 0, 1);
        house.sell();
        Check.due("just near enough", house.match(), 1);
        Check.due("0 with 2", house.told(0, 4), 2);
    }

    /** Grains 990, 920, 900, 830: the nearest two alone would leave the others without a mate. */
    private static void mostPairsFirst() {
        RoughStones house = Check.rowHouse();
        polished(house, 1, 0);
        polished(house, 1, 70);
        polished(house, 1, 90);
        polished(house, 1, 0, 60, 90 - 27);
        Check.due("first", house.told(0, 0), 990);
        Check.due("second", house.told(1, 0), 920);
        Check.due("third", house.told(2, 0), 900);
        int last = house.told(3, 0);
        Check.due("the last is near the third alone", last * 10 >= 8100 && last * 10 < 8910 ? 1 : 0, 1);
        Check.due("two pairs", house.match(), 2);
        Check.due("0 with 1", house.told(0, 4), 1);
        Check.due("2 with 3", house.told(2, 4), 3);
    }

    private static void firstOfTheSame() {
        RoughStones house = Check.rowHouse();
        for (int k = 0; k < 5; k++) {
            polished(house, 1, 0);
        }
        Check.due("of five the same", house.match(), 2);
        Check.due("0", house.told(0, 4), 1);
        Check.due("2", house.told(2, 4), 3);
        Check.due("none comes behind all", house.told(4, 4), -1);

        RoughStones near = Check.rowHouse();
        polished(near, 1, 90);
        polished(near, 1, 60);
        polished(near, 1, 88);
        Check.due("one pair", near.match(), 1);
        Check.due("the least difference", near.told(0, 4), 2);
        Check.due("the other one", near.told(1, 4), -1);
    }

    private static void firstTen() {
        RoughStones house = Check.rowHouse();
        int[] cells = {1, 2, 3, 4, 5, 6};
        for (int k = 0; k < 6; k++) {
            polished(house, cells[k], 90);
        }
        for (int k = 0; k < 4; k++) {
            polished(house, 1, 0, 90, 90);
        }
        Check.due("grains", house.told(6, 0), 801);
        polished(house, 6, 90);
        polished(house, 1, 0);
        Check.due("of the first ten alone", house.match(), 2);
        Check.due("6 with 7", house.told(6, 4), 7);
        Check.due("5 has no mate yet", house.told(5, 4), -1);
        Check.due("then of the next", house.match(), 2);
        Check.due("5 with the 11th", house.told(5, 4), 10);
        Check.due("0 with the 12th", house.told(0, 4), 11);
    }
}

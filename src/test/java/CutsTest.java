/** Promises 7, 8 and 10 to 13: price, worth, best, sawn, cut, done. */
public final class CutsTest {
    public static void main(String[] args) {
        prices();
        pricesRefused();
        worths();
        nothingToCut();
        order();
        moves();
        sawings();
        changesShow();
        asksRefused();
        stonesMade();
        fortyStones();
        Check.end();
    }

    private static void prices() {
        RoughStones house = new RoughStones();
        for (int k = 1; k <= 10; k++) {
            Check.due("step", house.price(20 * k, k), k);
        }
        Check.due("an 11th step", house.price(1, 1), -1);
        Check.due("it is none", house.worth(19), 0);
        Check.due("a step of the same weight", house.price(200, 0), 10);
        Check.due("is another one", house.worth(216), 0);
        Check.due("a step behind all", house.price(200, 10000), 10);
        Check.due("worth", house.worth(216), 2160000);
        Check.due("steps", house.count(5), 10);
    }

    private static void pricesRefused() {
        RoughStones house = new RoughStones();
        Check.dueThrow("weight 0", Check.ARGUMENT, () -> house.price(0, 1));
        Check.dueThrow("weight 217", Check.ARGUMENT, () -> house.price(217, 1));
        Check.dueThrow("price -1", Check.ARGUMENT, () -> house.price(1, -1));
        Check.dueThrow("price 10001", Check.ARGUMENT, () -> house.price(1, 10001));
        Check.due("no step", house.count(5), 0);
        Check.due("least", house.price(1, 0), 1);
        Check.due("greatest", house.price(216, 10000), 2);
        Check.dueThrow("worth(-1)", Check.ARGUMENT, () -> house.worth(-1));
        Check.dueThrow("worth(217)", Check.ARGUMENT, () -> house.worth(217));
    }

    private static void worths() {
        RoughStones house = new RoughStones();
        house.price(100, 3);
        house.price(10, 7);
        house.price(50, 2);
        Check.due("nothing", house.worth(0), 0);
        Check.due("below the least step", house.worth(9), 0);
        Check.due("at a step", house.worth(10), 70);
        Check.due("between", house.worth(49), 343);
        Check.due("a lower price above", house.worth(50), 100);
        Check.due("just below", house.worth(99), 198);
        Check.due("at the last step", house.worth(100), 300);
    }

    private static void nothingToCut() {
        RoughStones house = new RoughStones();
        house.rough();
        Check.fill(house, 0);
        none(house);
        house.price(1, 5);
        none(house);
        RoughStones free = new RoughStones();
        free.rough();
        Check.fill(free, 0);
        Check.model(free, "1x1@0,0");
        none(free);
        free.price(1, 0);
        none(free);
        free.price(1, 1);
        Check.due("a worth at last", free.best(0), 216);
    }

    private static void none(RoughStones house) {
        Check.due("best of nothing", house.best(0), 0);
        Check.due("axis of nothing", house.sawn(0, 0), -1);
        Check.due("place of nothing", house.sawn(0, 1), -1);
        Check.due("cuts of nothing", house.sawn(0, 2), 0);
        for (int what = 0; what <= 6; what++) {
            Check.due("cut of nothing " + what, house.cut(0, 0, what), what >= 3 && what <= 5 ? -1000 : -1);
        }
    }

    /** Of the same worth: the least model, then the greatest size, then the least way, then c, b, a. */
    private static void order() {
        RoughStones house = new RoughStones();
        house.rough();
        Check.model(house, "2x1@0,0");
        Check.model(house, "1x2@0,0");
        house.price(2, 1);
        house.scan(0, 0, 0b11, 0);
        cutIs(house, 0, 0, 1, 0, 0, 0, 0, 2);
        house.scan(0, 0, 0b1000001, 0);
        cutIs(house, 0, 0, 1, 2, 0, 0, 0, 2);
        house.scan(0, 0, 0, 0);
        house.scan(0, 4, 1L << 35, 0);
        house.scan(0, 5, 1L << 35, 0);
        cutIs(house, 0, 0, 1, 3, 5, 5, 4, 2);

        RoughStones flat = new RoughStones();
        flat.rough();
        Check.model(flat, "1x1@0,0");
        flat.price(1, 64);
        flat.price(2, 0);
        flat.price(64, 1);
        flat.price(65, 0);
        Check.fill(flat, 0);
        Check.due("two sizes of the same worth, the best is sawn", flat.best(0), 128);
        Check.due("the greater size where it fits", flat.cut(0, 1, 1), 4);
        Check.due("the lesser one elsewhere", flat.cut(0, 0, 1), 1);
    }

    private static void moves() {
        RoughStones house = new RoughStones();
        house.rough();
        Check.model(house, "1x1@5,4");
        house.price(1, 1);
        Check.fill(house, 0);
        cutIs(house, 0, 0, 6, 0, -30, -24, 0, 216);
        house.scan(0, 0, Check.FULL, Check.cell(2, 0));
        cutIs(house, 0, 0, 5, 0, -25, -19, 0, 125);
        house.scan(0, 0, Check.FULL, Check.cell(2, 0) | Check.cell(0, 3));
        cutIs(house, 0, 0, 5, 0, -24, -19, 0, 125);
        house.scan(0, 0, Check.FULL, Check.cell(2, 2));
        cutIs(house, 0, 0, 5, 0, -25, -20, 1, 125);
    }

    private static void cutIs(RoughStones house, int k, int... want) {
        for (int what = 0; what <= 6; what++) {
            Check.due("cut " + k + " what " + what, house.cut(0, k, what), want[what]);
        }
    }

    private static void sawings() {
        RoughStones house = new RoughStones();
        house.rough();
        Check.model(house, "1x1@0,0");
        house.price(8, 1);
        house.price(9, 0);
        Check.fill(house, 0);
        Check.due("two cubes of two", house.best(0), 16);
        Check.due("the least axis", house.sawn(0, 0), 0);
        Check.due("the least number that does", house.sawn(0, 1), 2);
        Check.due("two cuts", house.sawn(0, 2), 2);
        cutIs(house, 0, 0, 2, 0, 0, 0, 0, 8);
        cutIs(house, 1, 0, 2, 0, 3, 0, 0, 8);
        Check.due("no third", house.cut(0, 2, 0), -1);
        Check.due("no third's move", house.cut(0, 2, 4), -1000);
        Check.due("none below the first", house.cut(0, -1, 3), -1000);

        for (int z = 0; z < 6; z++) {
            house.scan(0, z, Check.cell(0, 0) | Check.cell(1, 0) | Check.cell(0, 1) | Check.cell(1, 1), 0);
        }
        Check.due("a column is sawn across", house.best(0), 16);
        Check.due("along z", house.sawn(0, 0), 2);
        Check.due("at 2", house.sawn(0, 1), 2);
        Check.due("c of the higher one", house.cut(0, 1, 5), 3);
        columnAlongY();
        house.scan(0, 2, 0, 0);
        house.scan(0, 4, 0, 0);
        Check.due("one cut alone is whole", house.best(0), 8);
        Check.due("no axis", house.sawn(0, 0), -1);
        Check.due("one", house.sawn(0, 2), 1);
    }

    private static void columnAlongY() {
        RoughStones house = new RoughStones();
        house.rough();
        Check.model(house, "1x1@0,0;1x1@0,0");
        house.price(2, 1);
        long column = 0;
        for (int y = 0; y < 6; y++) {
            column |= Check.cell(5, y);
        }
        house.scan(0, 5, column, 0);
        Check.due("a column along y", house.best(0), 4);
        Check.due("axis y", house.sawn(0, 0), 1);
        Check.due("at 2", house.sawn(0, 1), 2);
        cutIs(house, 0, 0, 1, 1, 5, 0, 5, 2);
        cutIs(house, 1, 0, 1, 1, 5, 3, 5, 2);
    }

    /** What was found once is found anew after each thing that may change it. */
    private static void changesShow() {
        RoughStones house = Check.cubeHouse();
        house.rough();
        house.scan(0, 0, 0b11, 0);
        Check.due("a cell", house.best(0), 1);
        Check.due("the other rough", house.best(1), 0);
        Check.model(house, "2x1@0,0");
        Check.due("after a model", house.best(0), 2);
        house.price(2, 9);
        Check.due("after a price", house.best(0), 18);
        house.price(2, 0);
        Check.due("after a price of the same weight", house.best(0), 1);
        house.scan(0, 0, 0, 0);
        Check.due("after a scan", house.best(0), 0);
        house.scan(0, 0, 1, 0);
        Check.due("after another scan", house.best(0), 1);
        house.done(0);
        Check.due("after it was cut", house.best(0), 0);
    }

    private static void asksRefused() {
        RoughStones house = Check.cubeHouse();
        Check.dueThrow("best(1)", Check.INDEX, () -> house.best(1));
        Check.dueThrow("best(-1)", Check.INDEX, () -> house.best(-1));
        Check.dueThrow("sawn of no rough", Check.INDEX, () -> house.sawn(1, 3));
        Check.dueThrow("sawn -1", Check.ARGUMENT, () -> house.sawn(0, -1));
        Check.dueThrow("sawn 3", Check.ARGUMENT, () -> house.sawn(0, 3));
        Check.dueThrow("cut of no rough", Check.INDEX, () -> house.cut(1, 0, 7));
        Check.dueThrow("cut -1", Check.ARGUMENT, () -> house.cut(0, 0, -1));
        Check.dueThrow("cut 7", Check.ARGUMENT, () -> house.cut(0, 5, 7));
        Check.dueThrow("done(1)", Check.INDEX, () -> house.done(1));
        Check.dueThrow("done(-1)", Check.INDEX, () -> house.done(-1));
    }

    private static void stonesMade() {
        RoughStones house = new RoughStones();
        house.rough();
        house.rough();
        Check.model(house, "3x3@0,0");
        Check.model(house, "1x1@0,0");
        house.price(1, 1);
        house.price(2, 0);
        house.price(8, 2);
        Check.due("nothing of a void rough", house.done(1), 0);
        Check.fill(house, 1);
        Check.due("best", house.best(1), 432);
        Check.due("one stone", house.done(1), 1);
        Check.due("grains", house.told(0, 0), 216000);
        Check.due("rough", house.told(0, 1), 1);
        Check.due("model", house.told(0, 2), 1);
        Check.due("void then", house.stuff(1), 0);
        house.scan(0, 0, 0b000111000111000111L, 0);
        house.scan(0, 5, 1, 0);
        Check.due("nine and one", house.best(0), 19);
        Check.due("two stones", house.done(0), 2);
        Check.due("the lower one first", house.told(1, 0), 9000);
        Check.due("its model", house.told(1, 2), 0);
        Check.due("then the higher one", house.told(2, 0), 1000);
        Check.due("its model", house.told(2, 2), 1);
        house.price(1, 0);
        house.scan(0, 0, 1, 0);
        Check.due("nothing of worth", house.done(0), 0);
        Check.due("void all the same", house.stuff(0), 0);
    }

    private static void fortyStones() {
        RoughStones house = Check.cubeHouse();
        for (int k = 0; k < 39; k++) {
            Check.due("stone", Check.stone(house, 1), k);
        }
        house.scan(0, 0, 0b101, 0);
        Check.due("two more", house.done(0), -1);
        Check.due("the rough stays", house.stuff(0), 2);
        Check.due("the stones too", house.count(2), 39);
        house.scan(0, 0, 1, 0);
        Check.due("the 40th", house.done(0), 1);
        house.scan(0, 0, 1, 0);
        Check.due("the 41st", house.done(0), -1);
        house.scan(0, 0, 0, 0);
        Check.due("none is not one more", house.done(0), 0);
        Check.due("the last one's number", house.told(39, 0), 1000);
    }
}

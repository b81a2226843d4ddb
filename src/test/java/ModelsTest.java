/** Promises 5, 6 and 9: feed, model, fit. */
public final class ModelsTest {
    public static void main(String[] args) {
        feeds();
        goodTexts();
        places();
        refusals();
        fits();
        ways();
        fitRefused();
        Check.end();
    }

    private static void feeds() {
        RoughStones house = new RoughStones();
        for (int k = 1; k <= 5; k++) {
            Check.due("feed", house.feed(0, 0, 0, 0, 0), 20 * k);
        }
        Check.due("beyond 100 bytes", house.feed(0, 0, 0, 0, 0), -1);
        Check.due("nothing has come", house.count(6), 100);
        Check.due("100 bytes that are no model", house.model(100), -2);
        Check.due("the tape is empty then", house.count(6), 0);

        RoughStones other = new RoughStones();
        other.feed('1' << 24 | 'x' << 16 | '2' << 8 | '@', '3' << 24 | ',' << 16 | '4' << 8 | ';',
                '6' << 24 | 'x' << 16 | '6' << 8 | '@', '0' << 24 | ',' << 16 | '0' << 8 | ' ', 0x20202020);
        Check.due("the highest byte comes first", other.model(20), 0);
        RoughStones high = new RoughStones();
        high.feed(0xFF000000, 0, 0, 0, 0);
        Check.due("a byte above 127 is no digit", high.model(1), -2);
    }

    private static void goodTexts() {
        String[] texts = {"1x1@0,0", "6x6@0,0", "1x1@5,5", " 2 x 3 @ 4 , 3 ; 1 x 1 @ 0 , 0   ",
            "1x1@0,0;1x1@0,0;1x1@0,0;1x1@0,0;1x1@0,0;1x1@0,0", "5x4@1,2  "};
        RoughStones house = new RoughStones();
        for (int k = 0; k < texts.length; k++) {
            Check.due("model " + texts[k], Check.model(house, texts[k]), k);
            Check.due("its bytes are gone", house.count(6), 0);
        }
        Check.due("models", house.count(1), 6);
    }

    private static void places() {
        place("", 0);
        place("   ", 3);
        place("0x1@0,0", 0);
        place("7x1@0,0", 0);
        place("x", 0);
        place("1", 1);
        place("1X1@0,0", 1);
        place("11x1@0,0", 1);
        place("1 1x1@0,0", 2);
        place("1x0@0,0", 2);
        place("1x7@0,0", 2);
        place("1x11@0,0", 3);
        place("1x1,0,0", 3);
        place("1x1@6,0", 4);
        place("6x1@1,0", 4);
        place("3x1@4,0", 4);
        place("3x1@ 4,0", 5);
        place("1x1@-1,0", 4);
        place("1x1@00,0", 5);
        place("1x1@0;0", 5);
        place("1x1@0,6", 6);
        place("1x6@0,1", 6);
        place("1x3@0,4", 6);
        place("1x1@0,", 6);
        place("1x1@0,  ", 8);
        place("1x1@0,00", 7);
        place("1x1@0,0 0", 8);
        place("1x1@0,0,", 7);
        place("1x1@0,0;", 8);
        place("1x1@0,0; ", 9);
        place("1x1@0,0;;", 8);
        place("1x1@0,0;7x1@0,0", 8);
        place("1x1@0,0\t", 7);
        place("1x1@0,0;1x1@0,0;1x1@0,0;1x1@0,0;1x1@0,0;1x1@0,0;", 47);
        place("1x1@0,0;1x1@0,0;1x1@0,0;1x1@0,0;1x1@0,0;1x1@0,0  ;1x1@0,0", 49);
    }

    private static void place(String text, int place) {
        RoughStones house = new RoughStones();
        Check.due("text '" + text + "'", Check.model(house, text), -2 - place);
        Check.due("no model of '" + text + "'", house.count(1), 0);
        Check.due("tape behind '" + text + "'", house.count(6), 0);
    }

    private static void refusals() {
        RoughStones house = new RoughStones();
        Check.type(house, "1x1@0,0");
        Check.dueThrow("n below 0", Check.ARGUMENT, () -> house.model(-1));
        Check.dueThrow("n above the tape", Check.ARGUMENT, () -> house.model(21));
        Check.due("the tape stays", house.count(6), 20);
        Check.due("the first bytes alone are looked at", house.model(7), 0);
        for (int k = 1; k < 6; k++) {
            Check.model(house, "1x1@0,0");
        }
        Check.dueThrow("n ahead of a 7th", Check.ARGUMENT, () -> house.model(1));
        Check.dueThrow("a 7th", Check.STATE, () -> house.model(0));
        Check.type(house, "no");
        Check.dueThrow("a 7th, that is none", Check.STATE, () -> house.model(2));
        Check.due("the tape stays then", house.count(6), 20);
    }

    private static void fits() {
        RoughStones house = new RoughStones();
        house.rough();
        Check.model(house, "1x1@5,5");
        Check.model(house, "2x1@0,0;1x1@5,5");
        Check.model(house, "2x2@2,2;1x1@3,3");
        Check.due("in a void rough", house.fit(0, 0, 0), 0);
        Check.fill(house, 0);
        Check.due("a cell anywhere grows to the whole", house.fit(0, 0, 0), 6);
        Check.due("a wide model does not grow", house.fit(0, 1, 0), 1);
        Check.due("two by two by two", house.fit(0, 2, 0), 3);
        house.scan(0, 2, Check.FULL, 1);
        Check.due("a flaw within the only place", house.fit(0, 2, 0), 2);
        Check.due("a flaw at an edge", house.fit(0, 0, 0), 5);
        house.scan(0, 2, Check.FULL, 0);
        house.scan(0, 0, Check.FULL, Check.cell(3, 2));
        Check.due("a hole where the model has none of its own cells", house.fit(0, 1, 0), 1);
    }

    /** A bar one cell thick tells by itself along which axis each way lays it. */
    private static void ways() {
        int[] axisOfX = {0, 0, 1, 2, 1, 2};
        int[] axisOfY = {1, 2, 0, 0, 2, 1};
        int[] axisOfZ = {2, 1, 2, 1, 0, 0};
        RoughStones house = new RoughStones();
        house.rough();
        Check.model(house, "6x1@0,0");
        Check.model(house, "1x6@0,0");
        Check.model(house, "1x1@0,0;1x1@0,0;1x1@0,0;1x1@0,0;1x1@0,0;1x1@0,0");
        for (int axis = 0; axis < 3; axis++) {
            for (int z = 0; z < 6; z++) {
                long layer = axis == 0 ? 0b111111L << 12 : axis == 1 ? 0b1000001000001000001000001000001L << 2
                        : Check.cell(4, 4);
                house.scan(0, z, axis == 2 || z == 3 ? layer : 0, 0);
            }
            for (int way = 0; way < 6; way++) {
                String at = " way " + way + " axis " + axis;
                Check.due("bar of x" + at, house.fit(0, 0, way), axisOfX[way] == axis ? 1 : 0);
                Check.due("bar of y" + at, house.fit(0, 1, way), axisOfY[way] == axis ? 1 : 0);
                Check.due("bar of z" + at, house.fit(0, 2, way), axisOfZ[way] == axis ? 1 : 0);
            }
        }
    }

    private static void fitRefused() {
        RoughStones house = Check.cubeHouse();
        Check.dueThrow("rough -1", Check.INDEX, () -> house.fit(-1, 0, 0));
        Check.dueThrow("rough first", Check.INDEX, () -> house.fit(1, 1, 6));
        Check.dueThrow("model -1", Check.ELEMENT, () -> house.fit(0, -1, 0));
        Check.dueThrow("model ahead of way", Check.ELEMENT, () -> house.fit(0, 1, 6));
        Check.dueThrow("way -1", Check.ARGUMENT, () -> house.fit(0, 0, -1));
        Check.dueThrow("way 6", Check.ARGUMENT, () -> house.fit(0, 0, 6));
    }
}

/** What the tests share: comparing answers, writing texts on a tape, and a final verdict. */
final class Check {
    interface Call {
        int answer();
    }

    interface CallOf {
        int answer(int argument);
    }

    static final long FULL = (1L << 36) - 1;
    static final Class<?> INDEX = IndexOutOfBoundsException.class;
    static final Class<?> ARGUMENT = IllegalArgumentException.class;
    static final Class<?> STATE = IllegalStateException.class;
    static final Class<?> ELEMENT = java.util.NoSuchElementException.class;

    private static final int MOST_SHOWN = 10;

    private static int wrong = 0;
    private static int asked = 0;
    private static int shown = 0;

    private Check() {
    }

    static void due(String what, long got, long want) {
        asked++;
        if (got != want) {
            fail(what + " answered " + got + ", due is " + want);
        }
    }

    static void dueThrow(String what, Class<?> want, Call call) {
        asked++;
        try {
            int got = call.answer();
            fail(what + " answered " + got + ", due is " + want.getSimpleName());
        } catch (RuntimeException thrown) {
            if (thrown.getClass() != want) {
                fail(what + " threw " + thrown + ", due is " + want.getSimpleName());
            }
            dueOwnThrow(what, thrown);
        }
    }

    /** The same for one argument's values in turn. */
    static void dueThrows(String what, Class<?> want, CallOf call, int... arguments) {
        for (int argument : arguments) {
            dueThrow(what + " with " + argument, want, () -> call.answer(argument));
        }
    }

    /** Numbers that lie outside 0 up to a bound (without it), just and by far. */
    static int[] outside(int bound) {
        return new int[] {-1, bound, bound + 1, -bound - 1, bound + (1 << 16), Integer.MIN_VALUE, Integer.MAX_VALUE};
    }

    /** What the class throws must come from a throw of its own, never from the machine or the library below it. */
    static void dueOwnThrow(String what, RuntimeException thrown) {
        StackTraceElement[] trace = thrown.getStackTrace();
        if (trace.length == 0 || !trace[0].getClassName().startsWith("RoughStones")) {
            fail(what + " let the machine throw " + thrown);
        }
    }

    static void fail(String what) {
        wrong++;
        shown++;
        if (shown <= MOST_SHOWN) {
            System.out.println(what);
        }
    }

    /** A test with many wrong answers must not hide what the next one says. */
    static void showAgain() {
        shown = 0;
    }

    static int failures() {
        return wrong;
    }

    static void end() {
        System.out.println(asked + " answers looked at, " + wrong + " wrong");
        if (wrong > 0 || asked == 0) {
            System.exit(1);
        }
    }

    /** Puts a text on the tape of a house, twenty bytes a call; what is left over is filled with zeros. */
    static void type(RoughStones house, String text) {
        for (int from = 0; from < text.length(); from += 20) {
            house.feed(word(text, from), word(text, from + 4), word(text, from + 8),
                    word(text, from + 12), word(text, from + 16));
        }
    }

    static int word(String text, int from) {
        int word = 0;
        for (int k = from; k < from + 4; k++) {
            word = word << 8 | (k < text.length() ? text.charAt(k) & 255 : 0);
        }
        return word;
    }

    /** A model from a text, with nothing else on the tape. */
    static int model(RoughStones house, String text) {
        type(house, text);
        return house.model(text.length());
    }

    static void fill(RoughStones house, int rough) {
        for (int z = 0; z < 6; z++) {
            house.scan(rough, z, FULL, 0);
        }
    }

    static long cell(int x, int y) {
        return 1L << x + 6 * y;
    }

    /** A house with a model of one cell, a price of 1 a cell and one rough. */
    static RoughStones cubeHouse() {
        RoughStones house = new RoughStones();
        model(house, "1x1@0,0");
        house.price(1, 1);
        house.rough();
        return house;
    }

    /** Makes a stone of so many cells (1 to 6, in a row): its number. */
    static int stone(RoughStones house, int cells) {
        house.scan(0, 0, (1L << cells) - 1, 0);
        int number = house.count(2);
        house.done(0);
        return number;
    }

    /** The same, polished, each facet an angle at index 0: so the plan goes from the least angle up. */
    static int polished(RoughStones house, int cells, int... angles) {
        int stone = stone(house, cells);
        for (int angle : angles) {
            house.facet(stone, 0, angle);
        }
        house.polish(stone);
        return stone;
    }

    /** A house whose models are rows of one to six cells, so that each stone's weight can be chosen. */
    static RoughStones rowHouse() {
        RoughStones house = new RoughStones();
        for (int cells = 1; cells <= 6; cells++) {
            model(house, cells + "x1@0,0");
        }
        house.price(1, 1);
        house.rough();
        return house;
    }
}

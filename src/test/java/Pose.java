/** Pointers brought to a wanted place, direction and stack, on a field that is blank otherwise. */
final class Pose {
    static final String[] ARROWS = {">", "v", "<", "^"};
    private static final int[] EAST = {1, 0, -1, 0};
    private static final int[] SOUTH = {0, 1, 0, -1};

    private Pose() {
    }

    /** One pointer, its numbers given from the lowest on (they are read from the input). */
    static DrawnPaths at(int x, int y, int direction, long... numbers) {
        DrawnPaths paths = new DrawnPaths();
        paths.start();
        push(paths, numbers);
        int column = Math.floorMod(x - EAST[direction], 12);
        int row = Math.floorMod(y - SOUTH[direction], 8);
        walk(paths, 0, column);
        if (row != 0) {
            act(paths, 'v');
        }
        walk(paths, 1, row);
        act(paths, ARROWS[direction].charAt(0));
        return paths;
    }

    /** Goes on until what the pointer answers is as wanted; a broken program must not keep a test for good. */
    private static void walk(DrawnPaths paths, int what, int want) {
        for (int k = 0; k < 12 && paths.pointer(0, what) != want; k++) {
            paths.step(1);
        }
    }

    /** Pushes sixes until the k-th pointer has 24 numbers. */
    static void fill(DrawnPaths paths, int k) {
        for (int more = 24 - paths.pointer(k, 4); more > 0; more--) {
            act(paths, k, '6');
        }
    }

    static void push(DrawnPaths paths, long... numbers) {
        for (long number : numbers) {
            paths.input(number);
            act(paths, 'i');
        }
    }

    /** How many the stack of the first pointer shall have, all of them 5, 6, 7, 8 by turns. */
    static long[] numbers(int size) {
        long[] numbers = new long[size];
        for (int k = 0; k < size; k++) {
            numbers[k] = 5 + k % 4;
        }
        return numbers;
    }

    /** The first one goes down column count - 1, the k-th behind it up column k - 1, each with a 0. */
    static DrawnPaths several(int count) {
        DrawnPaths paths = Check.started("fff".substring(0, count - 1) + "v");
        paths.step(count);
        paths.lay(0);
        return paths;
    }

    static void under(DrawnPaths paths, int k, char sign) {
        paths.put(paths.pointer(k, 0), paths.pointer(k, 1), sign);
    }

    /** Lets the k-th pointer do a sign, the others blanks; the place is blank again behind it. */
    static int act(DrawnPaths paths, int k, char sign) {
        int x = paths.pointer(k, 0);
        int y = paths.pointer(k, 1);
        paths.put(x, y, sign);
        int state = paths.step(1);
        paths.put(x, y, ' ');
        return state;
    }

    static int act(DrawnPaths paths, char sign) {
        return act(paths, 0, sign);
    }

    static String place(DrawnPaths paths, int k) {
        return paths.pointer(k, 0) + " " + paths.pointer(k, 1) + " " + paths.pointer(k, 2);
    }
}

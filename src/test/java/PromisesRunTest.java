/** Promises 9 to 15, sentence by sentence: step, fast, pointer, value, count, covers, block. */
public final class PromisesRunTest {
    private static final Check CHECK = new Check("PromisesRunTest");
    private static final int[] FAR = {Integer.MIN_VALUE, -2, -1, 7, 8, Integer.MAX_VALUE};

    public static void main(String[] args) {
        String steps = "Does n steps, or as many as there are until the run ends or stops: the STATE.";
        CHECK.sentence(steps, () -> counted(false));
        CHECK.sentence(steps, () -> untilItEnds(false));
        CHECK.sentence(steps, () -> untilItStops(false));
        CHECK.sentence("The same, FAST.", () -> counted(true));
        CHECK.sentence("The same, FAST.", () -> untilItEnds(true));
        CHECK.sentence("The same, FAST.", () -> untilItStops(true));
        CHECK.sentence("The same, FAST.", PromisesRunTest::byTurns);
        CHECK.sentence("Of the k-th living pointer, in the order in which they began:", PromisesRunTest::livingOnes);
        CHECK.sentence("what = 0 its x, 1 y, 2 direction, 3 whether it is quoted (1 or 0),", PromisesRunTest::places);
        CHECK.sentence("4 how many numbers, 5 how many returns it has.", PromisesRunTest::howMany);
        CHECK.sentence("The i-th number of a pointer's stack, from the top, counted from 0.", PromisesRunTest::values);
        counts();
        CHECK.sentence("How many blocks cover a place.", PromisesRunTest::covering);
        CHECK.sentence("Of the block that begins so: what = 0 how many signs it has,", PromisesRunTest::blockSizes);
        CHECK.sentence("1 to 3 the x, y and direction behind it,", PromisesRunTest::behindBlocks);
        CHECK.sentence("4 whether it is quoted then (1 or 0);", PromisesRunTest::quotedBehind);
        CHECK.sentence("NONE if there is none such.", PromisesRunTest::noneSuch);
        CHECK.end();
    }

    private static int go(DrawnPaths paths, boolean fast, int n) {
        return fast ? paths.fast(n) : paths.step(n);
    }

    private static void counted(boolean fast) {
        int[] sizes = {1, 2, 11, 12, 13, 999, 1000};
        for (int n : sizes) {
            DrawnPaths paths = Check.started("");
            CHECK.same("state of " + n, 0, go(paths, fast, n));
            CHECK.same("steps of " + n, n, paths.count(1));
            CHECK.same("where", n % 12 + " 0 0", Pose.place(paths, 0));
            CHECK.same("again", 0, go(paths, fast, n));
            CHECK.same("steps of two calls", 2 * n, paths.count(1));
            DrawnPaths forking = Check.started(" f");
            CHECK.same("state of " + n + " with forks", 0, go(forking, fast, n));
            CHECK.same("steps of " + n + " with forks", n, forking.count(1));
            CHECK.same("forks", n == 1 ? 1 : n < 10 ? 2 : n < 14 ? 3 : 4, forking.count(0));
        }
    }

    private static void untilItEnds(boolean fast) {
        for (int n = 1; n <= 6; n++) {
            DrawnPaths paths = Check.started("12n@");
            CHECK.same("state of " + n, n < 4 ? 0 : 1, go(paths, fast, n));
            CHECK.same("steps of " + n, Math.min(n, 4), paths.count(1));
            CHECK.same("living of " + n, n < 4 ? 1 : 0, paths.count(0));
        }
        DrawnPaths ended = Check.started("12n@");
        go(ended, fast, 1000);
        CHECK.same("no more", 1, go(ended, fast, 1000));
        CHECK.same("four", 4, ended.count(1));
        DrawnPaths none = new DrawnPaths();
        CHECK.same("no run", 1, go(none, fast, 1000));
        CHECK.same("no steps", 0, none.count(1));
        CHECK.same("no blocks", 0, none.count(2));
    }

    private static void untilItStops(boolean fast) {
        DrawnPaths full = Check.started("123456789012");
        CHECK.same("24 fit", 0, go(full, fast, 24));
        CHECK.same("one does not", 2, go(full, fast, 1));
        CHECK.same("steps", 24, full.count(1));
        DrawnPaths once = Check.started("123456789012");
        CHECK.same("in one call", 2, go(once, fast, 1000));
        CHECK.same("steps in one call", 24, once.count(1));
        CHECK.same("where", "0 0 0", Pose.place(once, 0));
        DrawnPaths writing = Check.started("nb");
        CHECK.same("the output", 3, go(writing, fast, 1000));
        CHECK.same("26 threes, then an n", 80, writing.output());
        CHECK.same("steps of the output", 26 * 12 + 1, writing.count(1));
        CHECK.same("at the b", "1 0 0", Pose.place(writing, 0));
        DrawnPaths calling = Check.started("C");
        CHECK.same("returns", 2, go(calling, fast, 1000));
        CHECK.same("eight steps", 8, calling.count(1));
    }

    private static void byTurns() {
        String[] rows = {"12+c>n5\"ab\"v", "v  xr2m3/  <", ">gs#@d\\n?  v", "^ f  ^   <<<"};
        DrawnPaths one = Check.started(rows);
        DrawnPaths other = Check.started(rows);
        for (int n = 1; n <= 14; n++) {
            CHECK.same("state", one.step(n), n % 3 == 0 ? other.step(n) : other.fast(n));
            CHECK.same("steps", one.count(1), other.count(1));
            CHECK.same("living", one.count(0), other.count(0));
            for (int k = 0; k < one.count(0); k++) {
                CHECK.same("pointer", Check.pointer(one, k), Check.pointer(other, k));
            }
        }
        CHECK.same("written", Check.written(one), Check.written(other));
    }

    private static void livingOnes() {
        DrawnPaths paths = Pose.several(4);
        int[] columns = {3, 0, 1, 2};
        for (int k = 0; k < 4; k++) {
            CHECK.same("column of " + k, columns[k], paths.pointer(k, 0));
        }
        Pose.act(paths, 1, '@');
        CHECK.same("the first", 3, paths.pointer(0, 0));
        CHECK.same("the second now", 1, paths.pointer(1, 0));
        CHECK.same("the third now", 2, paths.pointer(2, 0));
        CHECK.noPlace("no fourth", () -> paths.pointer(3, 0));
        int y = paths.pointer(1, 1);
        Pose.act(paths, 1, 'f');
        CHECK.same("a new one is the last", "0 " + y + " 2", Pose.place(paths, 3));
        CHECK.same("those before it are as they were", 2, paths.pointer(2, 0));
    }

    private static void places() {
        for (int direction = 0; direction < 4; direction++) {
            DrawnPaths paths = Pose.at(9, 6, direction);
            CHECK.same("x", 9, paths.pointer(0, 0));
            CHECK.same("y", 6, paths.pointer(0, 1));
            CHECK.same("direction", direction, paths.pointer(0, 2));
            CHECK.same("not quoted", 0, paths.pointer(0, 3));
            Pose.act(paths, '"');
            CHECK.same("quoted", 1, paths.pointer(0, 3));
            CHECK.same("directed as before", direction, paths.pointer(0, 2));
        }
        DrawnPaths corner = Pose.at(11, 7, 3);
        CHECK.same("the last place", "11 7 3", Pose.place(corner, 0));
        DrawnPaths first = Pose.at(0, 0, 2);
        CHECK.same("the first place", "0 0 2", Pose.place(first, 0));
    }

    private static void howMany() {
        DrawnPaths paths = Pose.at(3, 3, 0);
        CHECK.same("no numbers", 0, paths.pointer(0, 4));
        CHECK.same("no returns", 0, paths.pointer(0, 5));
        for (int k = 1; k <= 8; k++) {
            Pose.act(paths, 'C');
            CHECK.same("returns", k, paths.pointer(0, 5));
        }
        for (int k = 1; k <= 24; k++) {
            Pose.act(paths, '4');
            CHECK.same("numbers", k, paths.pointer(0, 4));
        }
        Pose.act(paths, 'x');
        CHECK.same("23", 23, paths.pointer(0, 4));
        Pose.act(paths, 'R');
        CHECK.same("seven", 7, paths.pointer(0, 5));
    }

    private static void values() {
        long[] numbers = new long[24];
        for (int k = 0; k < 24; k++) {
            numbers[k] = k % 2 == 0 ? Long.MIN_VALUE + k : Long.MAX_VALUE - k;
        }
        DrawnPaths paths = Pose.at(3, 3, 0, numbers);
        for (int i = 0; i < 24; i++) {
            CHECK.same("value " + i, numbers[23 - i], paths.value(0, i));
        }
        DrawnPaths four = Pose.several(4);
        for (int k = 0; k < 4; k++) {
            Pose.act(four, k, (char) ('4' + k));
        }
        for (int k = 0; k < 4; k++) {
            CHECK.same("of " + k, 4 + k, four.value(k, 0));
        }
    }

    private static void counts() {
        CHECK.sentence("What = 0: how many pointers live;", () -> {
            for (int living = 1; living <= 4; living++) {
                CHECK.same("living", living, Pose.several(living).count(0));
            }
            CHECK.same("none", 0, new DrawnPaths().count(0));
        });
        CHECK.sentence("1: steps;", () -> {
            DrawnPaths paths = Pose.several(3);
            CHECK.same("three", 3, paths.count(1));
            paths.step(4);
            CHECK.same("seven, however many live", 7, paths.count(1));
            paths.fast(1000);
            CHECK.same("more than a thousand", 1007, paths.count(1));
        });
        CHECK.sentence("2: blocks;", () -> {
            DrawnPaths paths = Check.started("123@");
            for (int k = 0; k < 3; k++) {
                CHECK.same("blocks", k, paths.count(2));
                paths.fast(1);
            }
            CHECK.same("three", 3, paths.count(2));
            paths.put(0, 0, 'a');
            CHECK.same("two", 2, paths.count(2));
        });
        CHECK.sentence("3: how many were dropped;", PromisesRunTest::dropped);
        CHECK.sentence("4: numbers of the input that were not read yet;", PromisesRunTest::notRead);
        CHECK.sentence("5: the STATE;", () -> {
            CHECK.same("none lives", 1, new DrawnPaths().count(5));
            CHECK.same("one lives", 0, Check.started("").count(5));
            DrawnPaths full = Check.started("c");
            full.step(1000);
            CHECK.same("stopped", 2, full.count(5));
            DrawnPaths written = Check.started("bn");
            written.step(1000);
            CHECK.same("stopped by the output", 3, written.count(5));
        });
        CHECK.sentence("6: how many places are LOST.", () -> {
            DrawnPaths paths = Check.drawing("ab@cd", "e k");
            CHECK.same("four", 4, paths.count(6));
            paths.put(2, 0, 'v');
            CHECK.same("three, since k is below v", 3, paths.count(6));
            CHECK.same("none", 0, new DrawnPaths().count(6));
        });
        CHECK.sentence("NONE for another what.", () -> {
            DrawnPaths paths = Pose.several(2);
            for (int what : FAR) {
                CHECK.same("count(" + what + ")", DrawnPaths.NONE, paths.count(what));
                CHECK.same("of a new one", DrawnPaths.NONE, new DrawnPaths().count(what));
            }
        });
    }

    private static void dropped() {
        DrawnPaths paths = Check.started("123@");
        paths.fast(3);
        CHECK.same("none yet", 0, paths.count(3));
        for (int k = 1; k <= 20; k++) {
            paths.put(1, 0, k % 2 == 0 ? '4' : '5');
            CHECK.same("more", k, paths.count(3));
            paths.start();
            CHECK.same("a start keeps them", k, paths.count(3));
            paths.fast(3);
        }
        paths.put(9, 7, 'q');
        CHECK.same("none for a place that is not covered", 20, paths.count(3));
    }

    private static void notRead() {
        DrawnPaths paths = Check.started("ix");
        for (int k = 1; k <= 40; k++) {
            paths.input(k);
            CHECK.same("given", k, paths.count(4));
        }
        for (int k = 39; k >= 0; k--) {
            paths.step(1);
            CHECK.same("read", k, paths.count(4));
            paths.step(11);
        }
        paths.step(12);
        CHECK.same("none below none", 0, paths.count(4));
    }

    private static void covering() {
        DrawnPaths paths = Check.started("           v", "v          <", ">          v", "           <");
        for (int k = 1; k <= 30; k++) {
            paths.fast(1);
            CHECK.same("of " + k, k, paths.covers(7, 2));
            CHECK.same("the first place", 1, paths.covers(0, 0));
        }
        CHECK.same("a place of none", 0, paths.covers(7, 7));
    }

    private static void blockSizes() {
        for (int size = 1; size <= 11; size++) {
            DrawnPaths paths = Pose.at(0, 4, 0);
            paths.put(size, 4, 'n');
            paths.fast(1);
            CHECK.same("size", size, paths.block(0, 4, 0, false, 0));
        }
    }

    private static void behindBlocks() {
        String arrows = ">v<^";
        String[] behind = {"6 4 0", "5 5 1", "4 4 2", "5 3 3"};
        for (int direction = 0; direction < 4; direction++) {
            for (int k = 0; k < 4; k++) {
                DrawnPaths paths = Pose.at(5, 4, k);
                for (int place = 0; place < 96; place++) {
                    paths.put(place % 12, place / 12, '@');
                }
                paths.put(5, 4, arrows.charAt(direction));
                paths.fast(1);
                CHECK.same("behind", "1 " + behind[direction] + " 0", Check.block(paths, 5, 4, k, false));
            }
        }
        DrawnPaths passing = Pose.at(10, 4, 0);
        passing.put(10, 4, '#');
        passing.put(0, 4, '@');
        passing.fast(1);
        CHECK.same("over the edge", "1 0 4 0 0", Check.block(passing, 10, 4, 0, false));
    }

    private static void quotedBehind() {
        // 31 blanks, then a quote is the last one of 32 signs, or the first one of the next block.
        for (int x = 6; x <= 8; x++) {
            DrawnPaths paths = Check.started("           v", "v          <", ">          v");
            paths.put(x, 2, '"');
            paths.fast(1);
            CHECK.same("quoted", "32 8 2 0 " + (x <= 7 ? 1 : 0), Check.block(paths, 0, 0, 0, false));
        }
        DrawnPaths ended = Check.started("\"a\"@");
        ended.fast(1);
        CHECK.same("no longer", 0, ended.block(0, 0, 0, false, 4));
        ended.fast(1);
        CHECK.same("begun in quotes", "2 3 0 0 0", Check.block(ended, 1, 0, 0, true));
    }

    private static void noneSuch() {
        DrawnPaths paths = Check.started("12@");
        paths.fast(2);
        for (int what = 0; what < 5; what++) {
            CHECK.same("another place", DrawnPaths.NONE, paths.block(1, 0, 0, false, what));
            CHECK.same("another row", DrawnPaths.NONE, paths.block(0, 1, 0, false, what));
            CHECK.same("quoted", DrawnPaths.NONE, paths.block(0, 0, 0, true, what));
            for (int direction = 1; direction < 4; direction++) {
                CHECK.same("another direction", DrawnPaths.NONE, paths.block(0, 0, direction, false, what));
            }
            CHECK.same("that one", true, paths.block(0, 0, 0, false, what) != DrawnPaths.NONE);
        }
        paths.put(1, 0, 'a');
        CHECK.same("one that was dropped", DrawnPaths.NONE, paths.block(0, 0, 0, false, 0));
    }
}

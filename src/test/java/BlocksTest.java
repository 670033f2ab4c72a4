/** Promises 10, 13, 14 and 15: fast, count, covers, block; what is made, done and dropped. */
public final class BlocksTest {
    private static final Check CHECK = new Check("BlocksTest");

    public static void main(String[] args) {
        doneAsAWhole();
        stepsMakeNone();
        sizes();
        behindABlock();
        behindAnAct();
        coveredPlaces();
        everyPlace();
        madeAgain();
        dropping();
        dropsByWriting();
        keptWhenPassedOver();
        thirtyAtMost();
        stacksThatAreTooFull();
        severalPointers();
        startsAndClears();
        counts();
        wrongCalls();
        CHECK.end();
    }

    private static void doneAsAWhole() {
        DrawnPaths paths = Check.started("123+ @");
        CHECK.same("fast", DrawnPaths.RUNNING, paths.fast(5));
        CHECK.same("one block", 1, paths.count(2));
        CHECK.same("five steps", 5, paths.count(1));
        CHECK.same("done", "5 0 0 0 [5 1] 0", Check.pointer(paths, 0));
        CHECK.same("an act makes none", DrawnPaths.ENDED, paths.fast(5));
        CHECK.same("one block still", 1, paths.count(2));
        paths.start();
        CHECK.same("too few steps", DrawnPaths.RUNNING, paths.fast(4));
        CHECK.same("four done", "4 0 0 0 [5 1] 0", Check.pointer(paths, 0));
        CHECK.same("blocks of 4, 3, 2 more", 4, paths.count(2));
    }

    private static void stepsMakeNone() {
        DrawnPaths paths = Check.started("123+ @");
        paths.step(5);
        CHECK.same("none by steps", 0, paths.count(2));
        CHECK.same("no block", "-1 -1 -1 -1 -1", Check.block(paths, 0, 0, 0, false));
    }

    private static void sizes() {
        String[] acts = {"?", "n", "b", "i", "w", "C", "R", "f", "@"};
        for (String act : acts) {
            DrawnPaths paths = Check.started("12" + act);
            paths.fast(1);
            CHECK.same("up to " + act, "2 2 0 0 0", Check.block(paths, 0, 0, 0, false));
            DrawnPaths quoted = Check.started("\"" + act + "\"n");
            quoted.fast(1);
            CHECK.same("quoted " + act, "3 3 0 0 0", Check.block(quoted, 0, 0, 0, false));
        }
        DrawnPaths round = Check.started("");
        round.fast(1);
        CHECK.same("once round", "12 0 0 0 0", Check.block(round, 0, 0, 0, false));
        DrawnPaths twice = Check.started("\"");
        twice.fast(1);
        CHECK.same("quoted and not", "24 0 0 0 0", Check.block(twice, 0, 0, 0, false));
        DrawnPaths into = Check.started("   v", " v <<", " >  ^");
        into.fast(1);
        // 3, 1 is done twice, from the north and then from the east.
        CHECK.same("into a ring", "13 2 1 2 0", Check.block(into, 0, 0, 0, false));
        DrawnPaths longWay = Check.started("           v", "v          <", ">          v", "n");
        longWay.fast(1);
        CHECK.same("32 at most", "32 8 2 0 0", Check.block(longWay, 0, 0, 0, false));
        DrawnPaths exact = Check.started("           v", "v          <", ">       n");
        exact.fast(1);
        CHECK.same("32 before an act", "32 8 2 0 0", Check.block(exact, 0, 0, 0, false));
    }

    private static void behindABlock() {
        DrawnPaths paths = Check.started("4v", " \"", " a", " n", " \"", " n");
        paths.fast(1);
        CHECK.same("to the south", "6 1 5 1 0", Check.block(paths, 0, 0, 0, false));
        paths.fast(3);
        CHECK.same("from quotes on", "3 1 5 1 0", Check.block(paths, 1, 2, 1, true));
        CHECK.same("not so quoted", "-1 -1 -1 -1 -1", Check.block(paths, 1, 2, 1, false));
        CHECK.same("not so directed", "-1 -1 -1 -1 -1", Check.block(paths, 1, 2, 0, true));
        DrawnPaths quoted = Check.started("           v", "v          <", ">\"");
        quoted.fast(1);
        CHECK.same("quoted behind it", "32 8 2 0 1", Check.block(quoted, 0, 0, 0, false));
    }

    private static void behindAnAct() {
        DrawnPaths paths = Check.started("n12@");
        paths.fast(3);
        CHECK.same("the act begins none", DrawnPaths.NONE, paths.block(0, 0, 0, false, 0));
        CHECK.same("what is behind it does", "2 3 0 0 0", Check.block(paths, 1, 0, 0, false));
        CHECK.same("one block", 1, paths.count(2));
    }

    /** A pointer that is called to each place makes a block of that place alone. */
    private static void everyPlace() {
        for (int place = 0; place < 96; place++) {
            int x = place % 12;
            int y = place / 12;
            DrawnPaths paths = new DrawnPaths();
            for (int k = 0; k < 96; k++) {
                paths.put(k % 12, k / 12, k == 0 || k == 1 ? 'i' : k == 2 ? 'C' : '@');
            }
            paths.input(x);
            paths.input(y);
            paths.start();
            paths.step(3);
            paths.put(x, y, '5');
            paths.fast(1);
            for (int k = 0; k < 96; k++) {
                CHECK.same("covers " + k, k == place ? 1 : 0, paths.covers(k % 12, k / 12));
            }
            paths.put((x + 1) % 12, y, '6');
            CHECK.same("kept", 1, paths.count(2));
            paths.put(x, y, '6');
            CHECK.same("dropped", 0, paths.count(2));
        }
    }

    private static void madeAgain() {
        DrawnPaths paths = Check.started("v@", "1", "2", "@");
        paths.fast(2);
        CHECK.same("two blocks", 2, paths.count(2));
        paths.put(0, 0, '1');
        CHECK.same("one is dropped", 1, paths.count(2));
        paths.start();
        paths.fast(1);
        CHECK.same("one is made again", "1 1 0 0 0", Check.block(paths, 0, 0, 0, false));
        CHECK.same("the other is as it was", "2 0 3 1 0", Check.block(paths, 0, 1, 1, false));
        CHECK.same("it covers its place", 1, paths.covers(0, 0));
        CHECK.same("and none that it had before", 1, paths.covers(0, 1));
        paths.put(0, 0, '2');
        paths.put(0, 1, '2');
        CHECK.same("three dropped", 3, paths.count(3));
        CHECK.same("none left", 0, paths.count(2));
        bothHalvesAgain();
    }

    /** A block over the last rows is dropped; the one made in its stead covers none of them. */
    private static void bothHalvesAgain() {
        DrawnPaths paths = Check.started("^@", "@", "@", "@", "@", "@", "@");
        paths.fast(1);
        CHECK.same("over the last row", 1, paths.covers(0, 7));
        paths.put(0, 0, '1');
        paths.start();
        paths.fast(1);
        CHECK.same("one block", 1, paths.count(2));
        CHECK.same("no longer over the last row", 0, paths.covers(0, 7));
    }

    private static void coveredPlaces() {
        DrawnPaths paths = Check.started("1#n2@");
        paths.fast(1);
        CHECK.same("passed over", "3 4 0 0 0", Check.block(paths, 0, 0, 0, false));
        int[] covers = {1, 1, 0, 1, 0, 0};
        for (int x = 0; x < covers.length; x++) {
            CHECK.same("covers " + x, covers[x], paths.covers(x, 0));
        }
        paths.fast(1);
        int[] more = {1, 2, 0, 2, 0, 0};
        for (int x = 0; x < more.length; x++) {
            CHECK.same("covers " + x + " of two", more[x], paths.covers(x, 0));
        }
        DrawnPaths crossing = Check.started("  v", "^ <", "", "", "", "", "", "@");
        crossing.put(1, 1, '3');
        crossing.fast(1);
        CHECK.same("a way that turns", "7 0 7 3 0", Check.block(crossing, 0, 0, 0, false));
        CHECK.same("a place crossed twice", 1, crossing.covers(0, 0));
        DrawnPaths low = Check.started("v", " ", " ", " ", " ", " ", " ", ">          @");
        low.fast(1);
        for (int y = 0; y < 8; y++) {
            CHECK.same("covers row " + y, 1, low.covers(0, y));
        }
        for (int x = 1; x < 11; x++) {
            CHECK.same("covers the last row", 1, low.covers(x, 7));
        }
        CHECK.same("not the act", 0, low.covers(11, 7));
    }

    private static void dropping() {
        DrawnPaths paths = Check.started("12@");
        paths.fast(1);
        paths.fast(1);
        CHECK.same("two", 2, paths.count(2));
        paths.put(1, 0, '2');
        CHECK.same("the same sign drops none", 2, paths.count(2));
        paths.put(2, 0, '3');
        CHECK.same("a place not covered drops none", 2, paths.count(2));
        CHECK.same("none dropped", 0, paths.count(3));
        CHECK.same("as it was made", 2, paths.block(0, 0, 0, false, 0));
        paths.put(0, 0, '3');
        CHECK.same("one left", 1, paths.count(2));
        CHECK.same("one dropped", 1, paths.count(3));
        CHECK.same("which", 1, paths.block(1, 0, 0, false, 0));
        CHECK.same("which not", -1, paths.block(0, 0, 0, false, 0));
        Check.draw(paths, 0, "32@");
        CHECK.same("laid the same there", 1, paths.count(2));
        Check.draw(paths, 0, "3");
        CHECK.same("laid blank there", 0, paths.count(2));
        CHECK.same("two dropped", 2, paths.count(3));
        paths.start();
        CHECK.same("drops stay", 2, paths.count(3));
    }

    private static void dropsByWriting() {
        // Writes a 7 on 1, 0, which the block that it came by covers.
        DrawnPaths paths = Check.started("\"7\"10w@");
        paths.fast(5);
        CHECK.same("made", 1, paths.count(2));
        paths.fast(1);
        CHECK.same("the same sign written", 0, paths.count(3));
        DrawnPaths other = Check.started("\"7\"20w@");
        other.fast(6);
        CHECK.same("written", '7', other.sign(2, 0));
        CHECK.same("dropped", 1, other.count(3));
        CHECK.same("none left", 0, other.count(2));
        DrawnPaths slow = Check.started("\"7\"20w@");
        slow.fast(5);
        slow.step(1);
        CHECK.same("dropped by a step", 1, slow.count(3));
    }

    private static void keptWhenPassedOver() {
        DrawnPaths paths = Check.started("#12@");
        paths.fast(2);
        CHECK.same("two signs", 2, paths.block(0, 0, 0, false, 0));
        paths.put(1, 0, '@');
        CHECK.same("kept", 1, paths.count(2));
        paths.start();
        paths.fast(2);
        CHECK.same("done", "3 0 0 0 [2] 0", Check.pointer(paths, 0));
    }

    private static void thirtyAtMost() {
        DrawnPaths paths = Check.started("           v", "v          <", ">           ");
        paths.fast(1);
        for (int k = 2; k <= 30; k++) {
            paths.fast(1);
            CHECK.same("blocks", k, paths.count(2));
        }
        CHECK.same("the last one", 12, paths.block(5, 2, 0, false, 0));
        paths.fast(4);
        CHECK.same("thirty", 30, paths.count(2));
        CHECK.same("none for a 31st", DrawnPaths.NONE, paths.block(6, 2, 0, false, 0));
        CHECK.same("steps", 34, paths.count(1));
        paths.put(6, 2, '5');
        int left = paths.count(2);
        CHECK.same("left and dropped", 30, left + paths.count(3));
        paths.fast(1);
        CHECK.same("one more again", left + 1, paths.count(2));
    }

    private static void stacksThatAreTooFull() {
        // Four signs before an act: with 19 numbers all are done at once, with 20 only the last three.
        for (int numbers = 18; numbers <= 22; numbers++) {
            DrawnPaths paths = Check.started("");
            for (int k = 0; k < numbers; k++) {
                paths.put(k % 12, 0, '1');
                paths.step(1);
            }
            int x = paths.pointer(0, 0);
            for (int k = 0; k < 4; k++) {
                paths.put((x + k) % 12, 0, ' ');
            }
            paths.put((x + 4) % 12, 0, '@');
            CHECK.same("fast", DrawnPaths.RUNNING, paths.fast(4));
            CHECK.same("four signs", 4, paths.block(x, 0, 0, false, 0));
            CHECK.same("blocks with " + numbers, Math.max(1, numbers - 18), paths.count(2));
        }
        DrawnPaths stopped = Check.started("\"");
        CHECK.same("fast that stops", 2, stopped.fast(1000));
        CHECK.same("full", 24, stopped.pointer(0, 4));
        DrawnPaths slow = Check.started("\"");
        slow.step(1000);
        CHECK.same("at the same place", Check.pointer(slow, 0), Check.pointer(stopped, 0));
        CHECK.same("with the same steps", slow.count(1), stopped.count(1));
    }

    private static void severalPointers() {
        DrawnPaths paths = Check.started("f123@");
        paths.fast(4);
        CHECK.same("two live, no blocks", 0, paths.count(2));
        CHECK.same("two live", 2, paths.count(0));
        paths.fast(1);
        CHECK.same("one lives", 1, paths.count(0));
        paths.fast(2);
        CHECK.same("one alone makes blocks", 2, paths.count(2));
        CHECK.same("to the north", 3, paths.block(0, 3, 3, false, 0));
    }

    private static void startsAndClears() {
        DrawnPaths paths = Check.started("12@");
        paths.fast(2);
        paths.start();
        CHECK.same("blocks stay", 1, paths.count(2));
        paths.clear();
        CHECK.same("blocks gone", 0, paths.count(2));
        CHECK.same("not as dropped", 0, paths.count(3));
        paths.start();
        paths.fast(12);
        paths.put(3, 0, 'x');
        CHECK.same("dropped later", 1, paths.count(3));
        paths.clear();
        CHECK.same("drops 0", 0, paths.count(3));
    }

    private static void counts() {
        DrawnPaths paths = Check.started("1f");
        int[] others = {-1, 7, 8, Integer.MIN_VALUE, Integer.MAX_VALUE};
        for (int what : others) {
            CHECK.same("count(" + what + ")", DrawnPaths.NONE, paths.count(what));
        }
        CHECK.same("state", DrawnPaths.RUNNING, paths.count(5));
        paths.step(2);
        CHECK.same("pointers", 2, paths.count(0));
        CHECK.same("steps", 2, paths.count(1));
    }

    private static void wrongCalls() {
        DrawnPaths paths = Check.started("12@");
        paths.fast(2);
        int[] wrong = {-1, 4, Integer.MIN_VALUE, Integer.MAX_VALUE};
        for (int direction : wrong) {
            CHECK.noArgument("direction " + direction, () -> paths.block(0, 0, direction, false, 0));
        }
        int[] whats = {-1, 5, Integer.MIN_VALUE, Integer.MAX_VALUE};
        for (int what : whats) {
            CHECK.noArgument("what " + what, () -> paths.block(0, 0, 0, false, what));
            CHECK.noArgument("what " + what + " of none", () -> paths.block(5, 5, 0, false, what));
        }
        CHECK.same("the last place", DrawnPaths.NONE, paths.block(11, 7, 3, true, 4));
    }
}

import java.util.ArrayList;
import java.util.List;
import java.util.function.Consumer;

/** "Terms", the calls that throw: what they throw, which exception wins, and that nothing changes. */
public final class ThrowsTest {
    private static final Check CHECK = new Check("ThrowsTest");
    private static final Class<IndexOutOfBoundsException> NO_PLACE = IndexOutOfBoundsException.class;
    private static final Class<IllegalArgumentException> NO_ARGUMENT = IllegalArgumentException.class;
    private static final Class<IllegalStateException> NO_STATE = IllegalStateException.class;
    private static final int MIN = Integer.MIN_VALUE;
    private static final int MAX = Integer.MAX_VALUE;
    private static final int[][] WRONG = {{-1, 0}, {12, 0}, {0, -1}, {0, 8}, {11, 8}, {12, 7}, {-1, 7}, {11, -1},
        {-12, 0}, {24, 0}, {0, -8}, {0, 16}, {7, 11}, {96, 0}, {-12, 1}, {MIN, 0}, {MAX, 0}, {0, MIN}, {0, MAX},
        {MIN, MIN}, {MAX, MAX}};

    private record Call(String name, Class<? extends RuntimeException> kind, Consumer<DrawnPaths> call) {
    }

    public static void main(String[] args) {
        CHECK.sentence("A call that throws changes nothing;", ThrowsTest::nothingChanges);
        CHECK.sentence("A call that throws changes nothing;", ThrowsTest::textStays);
        CHECK.sentence("where it lists more than one exception, the first one wins.", ThrowsTest::firstWins);
        CHECK.sentence("IndexOutOfBounds: there is no such place.", ThrowsTest::noSuchPlace);
        CHECK.sentence("IndexOutOfBounds: there is no such place.", ThrowsTest::everyPlaceThereIs);
        CHECK.sentence("IllegalArgument: c is none.", ThrowsTest::noSign);
        CHECK.sentence("IllegalState: there are 40.", ThrowsTest::fullInput);
        CHECK.sentence("IllegalArgument: n is not 1 .. 1000.", ThrowsTest::noSteps);
        CHECK.sentence("IndexOutOfBounds: there is no such pointer; IllegalArgument: another what.",
                ThrowsTest::noPointer);
        CHECK.sentence("IndexOutOfBounds: there is no such pointer or number.", ThrowsTest::noNumber);
        CHECK.sentence("IllegalArgument: no direction, or another what.", ThrowsTest::noBlock);
        CHECK.end();
    }

    /** In the midst of things: two live, blocks, drops, a text, a page, input half read. */
    private static DrawnPaths busy() {
        DrawnPaths paths = Check.started("12+n3  f i", " 56 78", "v");
        for (int k = 0; k < 40; k++) {
            paths.input(k * 3);
        }
        paths.fast(7);
        paths.put(0, 0, '4');
        paths.fast(5);
        paths.output();
        paths.type('t');
        paths.type('u');
        return paths;
    }

    private static DrawnPaths ended() {
        DrawnPaths paths = Check.started("12@");
        paths.fast(9);
        fillInput(paths);
        return paths;
    }

    private static DrawnPaths stopped() {
        DrawnPaths paths = Check.started("\"");
        paths.fast(99);
        fillInput(paths);
        return paths;
    }

    private static DrawnPaths fresh() {
        DrawnPaths paths = new DrawnPaths();
        fillInput(paths);
        return paths;
    }

    private static void fillInput(DrawnPaths paths) {
        for (int k = 0; k < 40; k++) {
            paths.input(k);
        }
    }

    private static DrawnPaths made(int kind) {
        return kind == 0 ? busy() : kind == 1 ? ended() : kind == 2 ? stopped() : fresh();
    }

    /** All that can be looked at in some 330 calls; lay comes last, since it empties the text. */
    private static String looks(DrawnPaths paths) {
        StringBuilder all = new StringBuilder();
        for (int what = 0; what < 7; what++) {
            all.append(paths.count(what)).append(' ');
        }
        for (int k = 0; k < paths.count(0); k++) {
            all.append(Check.pointer(paths, k)).append('\n');
        }
        for (int place = 0; place < 96; place++) {
            all.append(paths.sign(place % 12, place / 12)).append(paths.covers(place % 12, place / 12));
        }
        for (int p = 0; p < paths.length(); p++) {
            all.append(paths.charAt(p));
        }
        all.append('\n').append(paths.length()).append(' ').append(paths.output());
        all.append(' ').append(Check.block(paths, 0, 0, 0, false)).append(' ').append(paths.lay(7));
        return all.append(paths.sign(0, 7)).append(paths.fast(3)).append(paths.count(1)).toString();
    }

    private static List<Call> calls() {
        List<Call> all = new ArrayList<>();
        all.add(new Call("put(12, 0, 'a')", NO_PLACE, p -> p.put(12, 0, 'a')));
        all.add(new Call("put(0, 8, 'a')", NO_PLACE, p -> p.put(0, 8, 'a')));
        all.add(new Call("put(-1, 1, 'a')", NO_PLACE, p -> p.put(-1, 1, 'a')));
        all.add(new Call("put(0, 0, 127)", NO_ARGUMENT, p -> p.put(0, 0, (char) 127)));
        all.add(new Call("put(1, 0, 31)", NO_ARGUMENT, p -> p.put(1, 0, (char) 31)));
        all.add(new Call("sign(12, 0)", NO_PLACE, p -> p.sign(12, 0)));
        all.add(new Call("lay(-1)", NO_PLACE, p -> p.lay(-1)));
        all.add(new Call("lay(8)", NO_PLACE, p -> p.lay(8)));
        all.add(new Call("input(7)", NO_STATE, p -> p.input(7)));
        all.add(new Call("step(0)", NO_ARGUMENT, p -> p.step(0)));
        all.add(new Call("step(1001)", NO_ARGUMENT, p -> p.step(1001)));
        all.add(new Call("fast(0)", NO_ARGUMENT, p -> p.fast(0)));
        all.add(new Call("fast(1001)", NO_ARGUMENT, p -> p.fast(1001)));
        all.add(new Call("pointer(4, 0)", NO_PLACE, p -> p.pointer(4, 0)));
        all.add(new Call("value(4, 0)", NO_PLACE, p -> p.value(4, 0)));
        all.add(new Call("value(0, 24)", NO_PLACE, p -> p.value(0, 24)));
        all.add(new Call("covers(0, 8)", NO_PLACE, p -> p.covers(0, 8)));
        all.add(new Call("block(0, -1)", NO_PLACE, p -> p.block(0, -1, 0, false, 0)));
        all.add(new Call("block of direction 4", NO_ARGUMENT, p -> p.block(0, 0, 4, false, 0)));
        all.add(new Call("block of what 5", NO_ARGUMENT, p -> p.block(0, 0, 0, false, 5)));
        all.add(new Call("lost(12, 7)", NO_PLACE, p -> p.lost(12, 7)));
        return all;
    }

    private static void nothingChanges() {
        for (int kind = 0; kind < 4; kind++) {
            String want = looks(made(kind));
            for (Call one : calls()) {
                DrawnPaths paths = made(kind);
                CHECK.raises(one.name, one.kind, () -> one.call.accept(paths));
                CHECK.raises(one.name + " again", one.kind, () -> one.call.accept(paths));
                CHECK.same(one.name + " in " + kind, want, looks(paths));
            }
        }
        DrawnPaths paths = busy();
        String want = looks(busy());
        CHECK.raises("pointer(0, 6)", NO_ARGUMENT, () -> paths.pointer(0, 6));
        CHECK.same("pointer(0, 6)", want, looks(paths));
    }

    private static void textStays() {
        DrawnPaths paths = new DrawnPaths();
        for (char c = 'a'; c <= 'l'; c++) {
            paths.type(c);
        }
        CHECK.noPlace("lay(8)", () -> paths.lay(8));
        CHECK.noPlace("lay(-1)", () -> paths.lay(-1));
        CHECK.same("twelve still", 12, paths.lay(5));
        for (int x = 0; x < 12; x++) {
            CHECK.same("laid", 'a' + x, paths.sign(x, 5));
        }
    }

    private static void firstWins() {
        DrawnPaths paths = Check.started("12@");
        paths.fast(2);
        char[] none = {0, 31, 127, 65535};
        for (int[] place : WRONG) {
            for (char c : none) {
                CHECK.noPlace("put of no sign on no place", () -> paths.put(place[0], place[1], c));
            }
            CHECK.noPlace("no place, no direction", () -> paths.block(place[0], place[1], 4, false, 0));
            CHECK.noPlace("no place, another what", () -> paths.block(place[0], place[1], 0, true, -1));
            CHECK.noPlace("no place, neither", () -> paths.block(place[0], place[1], -1, true, 5));
        }
        int[] pointers = {-1, 1, 4, MIN, MAX};
        int[] whats = {-1, 6, MIN, MAX};
        for (int k : pointers) {
            for (int what : whats) {
                CHECK.noPlace("no pointer, another what", () -> paths.pointer(k, what));
            }
        }
    }

    private static void noSuchPlace() {
        for (int[] place : WRONG) {
            int x = place[0];
            int y = place[1];
            DrawnPaths paths = new DrawnPaths();
            String name = " on " + x + ", " + y;
            CHECK.noPlace("put" + name, () -> paths.put(x, y, 'a'));
            CHECK.noPlace("sign" + name, () -> paths.sign(x, y));
            CHECK.noPlace("covers" + name, () -> paths.covers(x, y));
            CHECK.noPlace("lost" + name, () -> paths.lost(x, y));
            for (int what = 0; what < 5; what++) {
                int asked = what;
                CHECK.noPlace("block" + name, () -> paths.block(x, y, 0, false, asked));
            }
        }
        int[] rows = {-1, 8, 12, -8, MIN, MAX};
        for (int y : rows) {
            DrawnPaths paths = new DrawnPaths();
            CHECK.noPlace("lay(" + y + ")", () -> paths.lay(y));
        }
    }

    private static void everyPlaceThereIs() {
        for (int y = 0; y < 8; y++) {
            DrawnPaths paths = new DrawnPaths();
            CHECK.same("lay", 0, paths.lay(y));
            for (int x = 0; x < 12; x++) {
                CHECK.same("put", ' ', paths.put(x, y, 'q'));
                CHECK.same("sign", 'q', paths.sign(x, y));
                CHECK.same("covers", 0, paths.covers(x, y));
                CHECK.same("lost", y > 0, paths.lost(x, y));
                for (int direction = 0; direction < 4; direction++) {
                    CHECK.same("block", -1, paths.block(x, y, direction, x % 2 == 0, direction));
                }
            }
        }
    }

    private static void noSign() {
        DrawnPaths paths = new DrawnPaths();
        paths.put(11, 7, 'k');
        char[] none = {0, 1, 9, 10, 13, 31, 127, 128, 255, 256, 288, 352, 32767, 32768, 65535};
        for (char c : none) {
            CHECK.noArgument("put of " + (int) c, () -> paths.put(11, 7, c));
            CHECK.same("as it was", 'k', paths.sign(11, 7));
        }
        CHECK.same("the first there is", 'k', paths.put(11, 7, ' '));
        CHECK.same("the last there is", ' ', paths.put(11, 7, '~'));
        CHECK.same("it is there", '~', paths.sign(11, 7));
    }

    private static void fullInput() {
        DrawnPaths paths = new DrawnPaths();
        for (int k = 1; k <= 40; k++) {
            CHECK.same("input", k, paths.input(-k));
        }
        CHECK.raises("a 41st", NO_STATE, () -> paths.input(5));
        CHECK.same("forty", 40, paths.count(4));
        paths.put(0, 0, 'i');
        paths.start();
        paths.step(1);
        CHECK.same("one is read", 39, paths.count(4));
        CHECK.raises("there are 40 all the same", NO_STATE, () -> paths.input(5));
        CHECK.same("the first", -1, paths.value(0, 0));
        paths.clear();
        CHECK.same("cleared", 1, paths.input(5));
    }

    private static void noSteps() {
        int[] none = {0, -1, -1000, MIN, 1001, 1002, 65536};
        DrawnPaths paths = Check.started("1x");
        for (int n : none) {
            CHECK.noArgument("step(" + n + ")", () -> paths.step(n));
            CHECK.noArgument("fast(" + n + ")", () -> paths.fast(n));
        }
        CHECK.same("nothing done", 0, paths.count(1));
        CHECK.same("nothing made", 0, paths.count(2));
        CHECK.same("step(1)", 0, paths.step(1));
        CHECK.same("fast(1)", 0, paths.fast(1));
        CHECK.same("two", 2, paths.count(1));
        CHECK.same("step(1000)", 0, paths.step(1000));
        CHECK.same("fast(1000)", 0, paths.fast(1000));
        CHECK.same("2002", 2002, paths.count(1));
        // A program that took so many would be done at once only where there is nothing to do.
        DrawnPaths[] idle = {new DrawnPaths(), ended(), stopped()};
        for (DrawnPaths one : idle) {
            for (int n : new int[] {0, 1001, MAX}) {
                CHECK.noArgument("step(" + n + ") with nothing to do", () -> one.step(n));
                CHECK.noArgument("fast(" + n + ") with nothing to do", () -> one.fast(n));
            }
        }
    }

    private static void noPointer() {
        for (int living = 1; living <= 4; living++) {
            DrawnPaths paths = Pose.several(living);
            int behind = living;
            CHECK.same("the last", true, paths.pointer(living - 1, 0) >= 0);
            CHECK.noPlace("one behind the last", () -> paths.pointer(behind, 0));
            CHECK.noPlace("one before the first", () -> paths.pointer(-1, 0));
            CHECK.noPlace("a least one", () -> paths.pointer(MIN, 0));
            CHECK.noPlace("a largest one", () -> paths.pointer(MAX, 5));
            int[] whats = {-1, 6, 7, MIN, MAX};
            for (int what : whats) {
                CHECK.noArgument("what " + what, () -> paths.pointer(behind - 1, what));
            }
        }
        DrawnPaths none = new DrawnPaths();
        CHECK.noPlace("none before a run", () -> none.pointer(0, 0));
        DrawnPaths ended = ended();
        CHECK.noPlace("none when it has ended", () -> ended.pointer(0, 0));
        DrawnPaths cleared = Pose.several(2);
        cleared.clear();
        CHECK.noPlace("none when cleared", () -> cleared.pointer(0, 0));
    }

    private static void noNumber() {
        int[] sizes = {0, 1, 23, 24};
        for (int size : sizes) {
            DrawnPaths paths = Pose.at(3, 3, 0, Pose.numbers(size));
            if (size > 0) {
                CHECK.same("the lowest", 5, paths.value(0, size - 1));
            }
            int[] none = {size, size + 1, 24, -1, MIN, MAX};
            for (int i : none) {
                CHECK.noPlace("number " + i + " of " + size, () -> paths.value(0, i));
            }
            CHECK.noPlace("of no pointer", () -> paths.value(1, 0));
            CHECK.noPlace("of one before the first", () -> paths.value(-1, 0));
            CHECK.noPlace("of a largest one", () -> paths.value(MAX, 0));
            CHECK.noPlace("of a least one", () -> paths.value(MIN, 0));
        }
        DrawnPaths popped = Pose.at(3, 3, 0, 8, 9);
        Pose.act(popped, 'x');
        CHECK.noPlace("one that was popped", () -> popped.value(0, 1));
    }

    private static void noBlock() {
        DrawnPaths paths = Check.started("12@");
        paths.fast(2);
        int[] directions = {-1, 4, 5, MIN, MAX};
        int[] whats = {-1, 5, 6, MIN, MAX};
        for (int k = 0; k < directions.length; k++) {
            int direction = directions[k];
            int what = whats[k];
            CHECK.noArgument("direction " + direction, () -> paths.block(0, 0, direction, false, 0));
            CHECK.noArgument("direction " + direction + ", quoted", () -> paths.block(11, 7, direction, true, 4));
            CHECK.noArgument("what " + what, () -> paths.block(0, 0, 0, false, what));
            CHECK.noArgument("what " + what + " of none", () -> paths.block(5, 5, 3, true, what));
        }
        CHECK.same("one that is", 2, paths.block(0, 0, 0, false, 0));
        CHECK.same("one that is not", DrawnPaths.NONE, paths.block(11, 7, 3, true, 4));
    }
}

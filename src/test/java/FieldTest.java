/** Promises 1 to 5 and 7: a new object, put, sign, type, lay, clear. */
public final class FieldTest {
    private static final Check CHECK = new Check("FieldTest");

    public static void main(String[] args) {
        newObject();
        putAndSign();
        wrongPlaces();
        typing();
        laying();
        layThatThrows();
        clearing();
        clearingAStoppedRun();
        clearKeepsTextAndPage();
        CHECK.end();
    }

    private static void newObject() {
        DrawnPaths paths = new DrawnPaths();
        for (int y = 0; y < 8; y++) {
            for (int x = 0; x < 12; x++) {
                CHECK.same("a new sign", ' ', paths.sign(x, y));
                CHECK.same("a new cover", 0, paths.covers(x, y));
                CHECK.same("a new lost", false, paths.lost(x, y));
            }
        }
        long[] counts = {0, 0, 0, 0, 0, DrawnPaths.ENDED, 0};
        for (int what = 0; what < counts.length; what++) {
            CHECK.same("a new count " + what, counts[what], paths.count(what));
        }
        CHECK.same("a new page", 0, paths.length());
        CHECK.same("a new output", 0, paths.output());
        CHECK.same("a new text", 0, paths.lay(0));
        CHECK.same("a new block", DrawnPaths.NONE, paths.block(0, 0, 0, false, 0));
        CHECK.same("step without a run", DrawnPaths.ENDED, paths.step(5));
        CHECK.same("fast without a run", DrawnPaths.ENDED, paths.fast(5));
        CHECK.same("steps without a run", 0, paths.count(1));
        CHECK.noPlace("a new pointer", () -> paths.pointer(0, 0));
        CHECK.noPlace("a new value", () -> paths.value(0, 0));
    }

    private static void putAndSign() {
        DrawnPaths paths = new DrawnPaths();
        for (int place = 0; place < 96; place++) {
            CHECK.same("put on a blank", ' ', paths.put(place % 12, place / 12, (char) (126 - place % 95)));
        }
        for (int place = 0; place < 96; place++) {
            int want = 126 - place % 95;
            CHECK.same("sign", want, paths.sign(place % 12, place / 12));
            CHECK.same("put on a sign", want, paths.put(place % 12, place / 12, '~'));
            CHECK.same("put again", '~', paths.put(place % 12, place / 12, '~'));
        }
    }

    private static void wrongPlaces() {
        DrawnPaths paths = new DrawnPaths();
        int[][] wrong = {{-1, 0}, {12, 0}, {0, -1}, {0, 8}, {11, 8}, {12, 7},
            {Integer.MIN_VALUE, 0}, {0, Integer.MAX_VALUE}, {-12, 1}, {24, -1}};
        for (int[] place : wrong) {
            int x = place[0];
            int y = place[1];
            CHECK.noPlace("put", () -> paths.put(x, y, 'a'));
            CHECK.noPlace("put of no sign", () -> paths.put(x, y, (char) 127));
            CHECK.noPlace("sign", () -> paths.sign(x, y));
            CHECK.noPlace("covers", () -> paths.covers(x, y));
            CHECK.noPlace("lost", () -> paths.lost(x, y));
            CHECK.noPlace("block", () -> paths.block(x, y, 0, false, 0));
            CHECK.noPlace("block of nothing", () -> paths.block(x, y, 4, false, 5));
        }
        char[] none = {0, 10, 31, 127, 128, 255, 288, (char) 65535};
        for (char c : none) {
            CHECK.noArgument("put of " + (int) c, () -> paths.put(3, 3, c));
            CHECK.same("type of " + (int) c, false, paths.type(c));
        }
        CHECK.same("a place that put threw at", ' ', paths.sign(3, 3));
        CHECK.same("put of the first sign", ' ', paths.put(11, 7, '!'));
        CHECK.same("put of a blank", '!', paths.put(11, 7, ' '));
        CHECK.same("put of the last sign", ' ', paths.put(11, 7, '~'));
    }

    private static void typing() {
        DrawnPaths paths = new DrawnPaths();
        for (int k = 0; k < 12; k++) {
            CHECK.same("no sign typed", false, paths.type('\n'));
            CHECK.same("typed", true, paths.type((char) ('a' + k)));
        }
        CHECK.same("a thirteenth typed", false, paths.type('z'));
        CHECK.same("a whole row", 12, paths.lay(3));
        CHECK.same("first of the row", 'a', paths.sign(0, 3));
        CHECK.same("last of the row", 'l', paths.sign(11, 3));
        CHECK.same("typed into an empty text", true, paths.type('~'));
        CHECK.same("a blank typed", true, paths.type(' '));
        CHECK.same("two characters", 2, paths.lay(4));
    }

    private static void laying() {
        DrawnPaths paths = Check.drawing("abcdefghijkl", "abcdefghijkl", "abcdefghijkl");
        Check.draw(paths, 1, "xyz");
        CHECK.same("laid", 'z', paths.sign(2, 1));
        CHECK.same("blanks behind", ' ', paths.sign(3, 1));
        CHECK.same("blank at the end", ' ', paths.sign(11, 1));
        CHECK.same("the row before", 'l', paths.sign(11, 0));
        CHECK.same("the row behind", 'a', paths.sign(0, 2));
        CHECK.same("nothing laid", 0, paths.lay(0));
        CHECK.same("a row made blank", ' ', paths.sign(0, 0));
        CHECK.same("the last row", 0, paths.lay(7));
    }

    private static void layThatThrows() {
        DrawnPaths paths = new DrawnPaths();
        paths.type('q');
        CHECK.noPlace("lay(8)", () -> paths.lay(8));
        CHECK.noPlace("lay(-1)", () -> paths.lay(-1));
        CHECK.same("the text after throws", 1, paths.lay(7));
        CHECK.same("the sign after throws", 'q', paths.sign(0, 7));
    }

    private static void clearing() {
        DrawnPaths paths = Check.started("0f1n>   v", "", "        n");
        paths.input(5);
        paths.fast(20);
        paths.start();
        paths.fast(9);
        paths.put(0, 0, '3');
        paths.clear();
        long[] counts = {0, 0, 0, 0, 0, DrawnPaths.ENDED, 0};
        for (int what = 0; what < counts.length; what++) {
            CHECK.same("count " + what + " when cleared", counts[what], paths.count(what));
        }
        for (int place = 0; place < 96; place++) {
            CHECK.same("sign when cleared", ' ', paths.sign(place % 12, place / 12));
            CHECK.same("cover when cleared", 0, paths.covers(place % 12, place / 12));
        }
        CHECK.same("output when cleared", 0, paths.output());
        CHECK.same("input when cleared", 1, paths.input(9));
        paths.start();
        CHECK.same("a run over blanks", DrawnPaths.RUNNING, paths.step(25));
        CHECK.same("where it is", "1 0 0 0 [] 0", Check.pointer(paths, 0));
    }

    private static void clearingAStoppedRun() {
        DrawnPaths paths = Check.started("iiiiiiiiiiii");
        paths.input(5);
        CHECK.same("stopped", 2, paths.step(1000));
        CHECK.same("all read", 0, paths.count(4));
        paths.clear();
        CHECK.same("ended when cleared", DrawnPaths.ENDED, paths.count(5));
        CHECK.same("no input when cleared", 0, paths.count(4));
        paths.input(6);
        CHECK.same("one not read", 1, paths.count(4));
    }

    private static void clearKeepsTextAndPage() {
        DrawnPaths paths = Check.started("7n@");
        paths.step(9);
        paths.output();
        paths.type('k');
        paths.clear();
        CHECK.same("the page when cleared", 2, paths.length());
        CHECK.same("its first character", '7', paths.charAt(0));
        CHECK.same("the text when cleared", 1, paths.lay(0));
    }
}

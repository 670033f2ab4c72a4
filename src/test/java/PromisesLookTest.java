import java.util.Arrays;

/** Promises 16 to 19, sentence by sentence: lost, output, length, charAt. */
public final class PromisesLookTest {
    private static final Check CHECK = new Check("PromisesLookTest");

    public static void main(String[] args) {
        lostPlaces();
        CHECK.sentence("Writes the output on the page, instead of what was there:", PromisesLookTest::insteadOf);
        CHECK.sentence("how many characters.", PromisesLookTest::howMany);
        CHECK.sentence("How many characters the page has.", PromisesLookTest::pageSizes);
        CHECK.sentence("Character p of the page;", PromisesLookTest::pageCharacters);
        CHECK.sentence("a blank when there is none.", PromisesLookTest::noneThere);
        CHECK.end();
    }

    private static void lostPlaces() {
        CHECK.sentence("Whether a place is LOST: its sign is no blank,", PromisesLookTest::noBlank);
        CHECK.sentence("and no way comes to it from 0, 0, directed east, not quoted,", PromisesLookTest::fromTheFirst);
        CHECK.sentence("on the field as it is;", PromisesLookTest::asItIs);
        CHECK.sentence("ways go on as a pointer would,", PromisesLookTest::asPointersGo);
        CHECK.sentence("ways go on as a pointer would,", PromisesLookTest::quotedWays);
        CHECK.sentence("at ? along all three,", PromisesLookTest::allThree);
        CHECK.sentence("at C to its return,", PromisesLookTest::toItsReturn);
        CHECK.sentence("at f along both;", PromisesLookTest::alongBoth);
        CHECK.sentence("not behind R and @.", PromisesLookTest::notBehind);
    }

    /** The signs on the field that are lost, row by row. */
    private static String lost(DrawnPaths paths) {
        StringBuilder all = new StringBuilder();
        for (int place = 0; place < 96; place++) {
            if (paths.lost(place % 12, place / 12)) {
                all.append(paths.sign(place % 12, place / 12));
            }
        }
        CHECK.same("counted", all.length(), paths.count(6));
        return all.toString();
    }

    private static void loses(String want, String... rows) {
        CHECK.same(rows[0], want, lost(Check.drawing(rows)));
    }

    private static void noBlank() {
        DrawnPaths paths = Check.drawing("@");
        for (int place = 1; place < 96; place++) {
            CHECK.same("a blank", false, paths.lost(place % 12, place / 12));
        }
        for (char c = 33; c <= 126; c++) {
            paths.put(7, 5, c);
            CHECK.same("sign " + c, true, paths.lost(7, 5));
        }
        paths.put(7, 5, ' ');
        CHECK.same("a blank again", false, paths.lost(7, 5));
    }

    private static void fromTheFirst() {
        loses("", "a");
        loses("", "@");
        loses("a", "@a");
        loses("a", "@", "a");
        loses("a", "           @", "a");
        loses("", "abcdefghijkl");
        // A way from elsewhere is none, wherever the pointers are.
        DrawnPaths paths = Check.started("v@a", "@");
        paths.put(0, 1, '>');
        paths.put(5, 1, 'q');
        paths.step(4);
        paths.put(0, 0, '@');
        CHECK.same("a pointer is on the way to q", "3 1 0", Pose.place(paths, 0));
        CHECK.same("q is lost all the same", true, paths.lost(5, 1));
        // Not quoted: the first @ is done.
        loses("ab", "@ab");
    }

    private static void asItIs() {
        DrawnPaths paths = Check.drawing("ab@cd");
        CHECK.same("behind @", "cd", lost(paths));
        paths.put(2, 0, ' ');
        CHECK.same("no @ any more", "", lost(paths));
        Check.draw(paths, 0, "ab@cd");
        CHECK.same("laid again", "cd", lost(paths));
        DrawnPaths turning = Check.started("i10w@");
        turning.input('v');
        CHECK.same("none yet", false, turning.lost(2, 0));
        turning.step(4);
        CHECK.same("a v is written on 1, 0", true, turning.lost(2, 0));
        turning.clear();
        CHECK.same("cleared", "", lost(turning));
    }

    private static void asPointersGo() {
        loses("bc", "a v b", "c d");
        loses("b", "#bc");
        loses("#e", "##c#e");
        loses("b", "a\\b", " c", " @");
        loses("b", "a/b", "", "", "", "", "", " @", " c");
        loses("", "<a");
        loses("a", "<a@");
        loses("a", "^a");
        loses("xyz", "v", ">n b i w   v", "xyz");
        loses("@", " #b  v", "  ^  <", "@");
    }

    private static void quotedWays() {
        loses("", "\"@v?R<\"@");
        loses("a", "\"@v?R<\"@a");
        loses("b", "\"#a\"@b");
        // Quoted once round, then not: the v is done the second time.
        loses("", "a\"v@", "  b");
        loses("c", "a\"v@", "c b");
        // The # is passed over as a quoted sign first, and passes over later.
        loses("", "\"#a");
    }

    /** To the sign from each direction over an x; a is before it, b on its right, c on its left. */
    private static String[][] crossings(char sign) {
        return new String[][] {
            {"#x" + sign + "a@", "  b", "  @", "", "", "", "  @", "  c"},
            {"v", "#", "x", sign + "c@       @b", "a", "@"},
            {"<      @a" + sign + "x#", "         c", "         @", "", "", "", "         @", "         b"},
            {"^", "", "", "@", "a", sign + "b@       @c", "x", "#"}};
    }

    private static void allThree() {
        for (String[] rows : crossings('?')) {
            loses("x", rows);
        }
        loses("", "?a@", "b", "@", "", "", "", "@", "c");
        String[] full = new String[8];
        Arrays.fill(full, "????????????");
        loses("", full);
    }

    private static void toItsReturn() {
        loses("", "42Cab@");
        loses("c", "42Cab@", "", "    c");
        loses("abR", "12Cd@", "", " abR");
        loses("ca", "00C@ca");
    }

    private static void alongBoth() {
        String[] want = {"xb@", "x@b", "x@b", "b@x"};
        String[][] all = crossings('f');
        for (int direction = 0; direction < 4; direction++) {
            loses(want[direction], all[direction]);
        }
        loses("", "afb@", "", "", "", "", "", " @", " c");
    }

    private static void notBehind() {
        loses("bcd", "a@bcd");
        loses("bcd", "aRbcd");
        loses("R", "a@R");
        loses("@", "aR@");
        // Also behind an R that some call may come back from.
        loses("Rb", "42Ca@", "", "    Rb");
    }

    private static void insteadOf() {
        DrawnPaths paths = Check.started("7n8n@");
        paths.step(4);
        CHECK.same("four", "7 8 ", Check.written(paths));
        paths.start();
        paths.step(2);
        CHECK.same("the page is as it was", 4, paths.length());
        CHECK.same("its third", '8', paths.charAt(2));
        CHECK.same("two", "7 ", Check.written(paths));
        CHECK.same("none of what was there", ' ', paths.charAt(2));
        paths.start();
        CHECK.same("none", 0, paths.output());
        CHECK.same("an empty page", 0, paths.length());
        paths.step(1000);
        CHECK.same("again", "7 8 ", Check.written(paths));
        paths.output();
        CHECK.same("twice the same", 4, paths.length());
    }

    private static void howMany() {
        for (int size = 0; size <= 80; size++) {
            DrawnPaths paths = Check.started("bbbbbbbbbbbb");
            if (size > 0) {
                paths.step(size);
            }
            CHECK.same("characters", size, paths.output());
            CHECK.same("again", size, paths.output());
        }
    }

    private static void pageSizes() {
        DrawnPaths paths = Check.started("b");
        CHECK.same("none", 0, paths.length());
        CHECK.same("stopped", 3, paths.step(1000));
        CHECK.same("none before output", 0, paths.length());
        paths.output();
        CHECK.same("80", 80, paths.length());
        paths.start();
        paths.step(1);
        CHECK.same("80 until the next", 80, paths.length());
        paths.output();
        CHECK.same("one", 1, paths.length());
        paths.clear();
        CHECK.same("a clear leaves the page", 1, paths.length());
        paths.output();
        CHECK.same("none again", 0, paths.length());
    }

    private static void pageCharacters() {
        DrawnPaths paths = Check.started("bi");
        for (int k = 0; k < 40; k++) {
            paths.input('A' + k);
        }
        paths.step(40 * 12 - 10);
        // The first b finds an empty stack, the others what the i before them read.
        CHECK.same("forty", 40, paths.output());
        CHECK.same("the first", ' ', paths.charAt(0));
        for (int p = 1; p < 40; p++) {
            CHECK.same("character " + p, 'A' + p - 1, paths.charAt(p));
        }
        DrawnPaths full = Check.started("\"~\"b");
        full.step(1000);
        full.output();
        CHECK.same("the first of 80", '~', full.charAt(0));
        CHECK.same("the last of 80", '~', full.charAt(79));
    }

    private static void noneThere() {
        int[] none = {-1, 2, 79, 80, 81, Integer.MIN_VALUE, Integer.MAX_VALUE};
        DrawnPaths paths = Check.started("7n@");
        CHECK.same("on an empty page", ' ', paths.charAt(0));
        paths.step(9);
        paths.output();
        for (int p : none) {
            CHECK.same("charAt(" + p + ")", ' ', paths.charAt(p));
        }
        DrawnPaths full = Check.started("\"~\"b");
        full.step(1000);
        full.output();
        CHECK.same("behind 80", ' ', full.charAt(80));
        CHECK.same("before 80", ' ', full.charAt(-1));
        full.start();
        full.output();
        CHECK.same("what was there is gone", ' ', full.charAt(0));
        CHECK.same("to the last", ' ', full.charAt(79));
    }
}

/** Promises 6, 8, 9, 11 and 12, and what each sign does to a pointer. */
public final class SignsTest {
    private static final Check CHECK = new Check("SignsTest");

    public static void main(String[] args) {
        turns();
        edges();
        quotes();
        reckoning();
        emptyStacks();
        theLeastNumber();
        readAndWriteTheField();
        questions();
        output();
        input();
        calls();
        signsThatDoNothing();
        starting();
        wrongCalls();
        CHECK.end();
    }

    /** The pointer after some steps from the beginning of a drawing. */
    private static void after(String what, int steps, String want, String... rows) {
        DrawnPaths paths = Check.started(rows);
        CHECK.same(what + ": state", DrawnPaths.RUNNING, paths.step(steps));
        CHECK.same(what, want, Check.pointer(paths, 0));
        CHECK.same(what + ": steps", steps, paths.count(1));
    }

    private static void writes(String what, String want, String... rows) {
        DrawnPaths paths = Check.started(rows);
        CHECK.same(what + ": state", DrawnPaths.ENDED, paths.step(200));
        CHECK.same(what, want, Check.written(paths));
    }

    private static void turns() {
        after("> ", 1, "1 0 0 0 [] 0", ">");
        after("v", 1, "0 1 1 0 [] 0", "v");
        after("<", 1, "11 0 2 0 [] 0", "<");
        after("^", 1, "0 7 3 0 [] 0", "^");
        after("/ of 0", 1, "0 7 3 0 [] 0", "/");
        after("/ of 1", 2, "11 1 2 0 [] 0", "v", "/");
        after("/ of 2", 2, "11 1 1 0 [] 0", "<          /");
        after("/ of 3", 2, "1 7 0 0 [] 0", "^", "", "", "", "", "", "", "/");
        after("\\ of 0", 1, "0 1 1 0 [] 0", "\\");
        after("\\ of 1", 2, "1 1 0 0 [] 0", "v", "\\");
        after("\\ of 2", 2, "11 7 3 0 [] 0", "<          \\");
        after("\\ of 3", 2, "11 7 2 0 [] 0", "^", "", "", "", "", "", "", "\\");
        after("#", 1, "2 0 0 0 [] 0", "#<");
        after("##", 2, "4 0 0 0 [] 0", "#<#<");
        after("# to the south", 2, "0 3 1 0 [] 0", "v", "#", "9");
    }

    private static void edges() {
        after("east", 12, "0 0 0 0 [] 0", "");
        after("south", 8, "0 0 1 0 [] 0", "v");
        after("west", 12, "0 0 2 0 [] 0", "<");
        after("north", 8, "0 0 3 0 [] 0", "^");
        after("# over an edge", 12, "1 0 0 0 [] 0", "           #");
        after("# to the edge", 11, "0 0 0 0 [] 0", "          #7");
    }

    private static void quotes() {
        after("quoted", 2, "2 0 0 1 [97] 0", "\"a");
        after("quoted acts", 6, "6 0 0 1 [35 62 64 63 110] 0", "\"n?@>#");
        after("a quoted blank", 2, "2 0 0 1 [32] 0", "\" ");
        after("quotes that end", 4, "4 0 0 0 [5 97] 0", "\"a\"5");
        after("quotes to the south", 3, "0 3 1 1 [94] 0", "v", "\"", "^");
    }

    private static void reckoning() {
        after("digits", 10, "10 0 0 0 [9 8 7 6 5 4 3 2 1 0] 0", "0123456789");
        after("+", 3, "3 0 0 0 [9] 0", "72+");
        after("-", 3, "3 0 0 0 [5] 0", "72-");
        after("- below 0", 3, "3 0 0 0 [-5] 0", "27-");
        after("*", 3, "3 0 0 0 [14] 0", "72*");
        after("d", 3, "3 0 0 0 [3] 0", "72d");
        after("d below 0", 5, "5 0 0 0 [-3] 0", "07-2d");
        after("d by below 0", 5, "5 0 0 0 [-3] 0", "702-d");
        after("m", 3, "3 0 0 0 [1] 0", "72m");
        after("m below 0", 5, "5 0 0 0 [-1] 0", "07-2m");
        after("m by below 0", 5, "5 0 0 0 [1] 0", "702-m");
        after("d by 0", 3, "3 0 0 0 [0] 0", "70d");
        after("m by 0", 3, "3 0 0 0 [0] 0", "70m");
        after("c", 3, "3 0 0 0 [2 2 7] 0", "72c");
        after("s", 4, "4 0 0 0 [7 2 1] 0", "172s");
        after("x", 3, "3 0 0 0 [7] 0", "72x");
        after("r of 0", 4, "4 0 0 0 [2 2 7] 0", "720r");
        after("r of 1", 4, "4 0 0 0 [7 2 7] 0", "721r");
        after("r of more", 4, "4 0 0 0 [0 2 7] 0", "722r");
        after("r below 0", 6, "6 0 0 0 [0 2 7] 0", "7201-r");
    }

    private static void emptyStacks() {
        after("+ of none", 1, "1 0 0 0 [0] 0", "+");
        after("- of one", 2, "2 0 0 0 [-4] 0", "4-");
        after("d of one", 2, "2 0 0 0 [0] 0", "4d");
        after("c of none", 1, "1 0 0 0 [0 0] 0", "c");
        after("s of none", 1, "1 0 0 0 [0 0] 0", "s");
        after("s of one", 2, "2 0 0 0 [0 4] 0", "4s");
        after("x of none", 1, "1 0 0 0 [] 0", "x");
        after("r of none", 1, "1 0 0 0 [0] 0", "r");
        after("g of none", 1, "1 0 0 0 [103] 0", "g");
        after("? of none", 1, "1 0 0 0 [] 0", "?");
        writes("n of none", "0 ", "n@");
        writes("b of none", " ", "b@");
    }

    private static void theLeastNumber() {
        DrawnPaths paths = Check.started("iiidniimn@");
        long[] numbers = {Long.MIN_VALUE, Long.MIN_VALUE, -1, Long.MIN_VALUE, -1};
        for (long number : numbers) {
            paths.input(number);
        }
        paths.step(5);
        CHECK.same("the least number by -1", "-9223372036854775808 ", Check.written(paths));
        paths.step(50);
        CHECK.same("its rest by -1", "-9223372036854775808 0 ", Check.written(paths));
        DrawnPaths wrapping = Check.started("i1+c1-n@");
        wrapping.input(Long.MAX_VALUE);
        wrapping.step(4);
        CHECK.same("wrapped", Long.MIN_VALUE, wrapping.value(0, 0));
        wrapping.step(50);
        CHECK.same("wrapped again", "9223372036854775807 ", Check.written(wrapping));
        DrawnPaths large = Check.started("ir@");
        large.input(1L << 32);
        large.step(2);
        CHECK.same("r of 2 to the 32nd", 0, large.value(0, 0));
    }

    private static void readAndWriteTheField() {
        after("g", 3, "3 0 0 0 [113] 0", "41g", "    q");
        after("g modulo", 5, "5 0 0 0 [113] 0", "93+9g", "q");
        after("g below 0", 7, "7 0 0 0 [113] 0", "01-01-g", "", "", "", "", "", "", "           q");
        DrawnPaths paths = Check.started("ii6w", "");
        paths.input(64 + 128);
        paths.input(-3);
        paths.step(4);
        CHECK.same("w", '@', paths.sign(9, 6));
        CHECK.same("behind w", "4 0 0 0 [] 0", Check.pointer(paths, 0));
        long[] none = {0, 31, 127, 128 + 5, -1, -128};
        for (long number : none) {
            DrawnPaths other = Check.started("i00w", "q");
            other.input(number);
            other.step(4);
            CHECK.same("w of " + number, ' ', other.sign(0, 0));
        }
        DrawnPaths below = Check.started("i00w", "q");
        below.input(-2);
        below.step(4);
        CHECK.same("w of -2", '~', below.sign(0, 0));
        DrawnPaths large = Check.started("1iiw");
        large.input(Long.MIN_VALUE);
        large.input(Long.MAX_VALUE);
        large.put(4, 7, 'q');
        large.step(4);
        CHECK.same("w far away", ' ', large.sign(4, 7));
    }

    private static void questions() {
        after("? above 0", 2, "1 1 1 0 [] 0", "9?");
        after("? of 0", 2, "2 0 0 0 [] 0", "0?");
        after("? below 0", 4, "3 7 3 0 [] 0", "01-?");
        after("? right of north", 3, "1 6 0 0 [] 0", "^", "", "", "", "", "", "?", "1");
        after("? of no input", 3, "2 7 3 0 [0] 0", "0i?");
    }

    private static void output() {
        writes("n", "7 0 -4 ", "7n0n4-n@");
        after("behind n", 3, "3 0 0 0 [5] 0", "57n");
        after("behind b", 3, "3 0 0 0 [5] 0", "57b");
        writes("b", "a~ ", "\"a~\"sb b0b@");
        DrawnPaths paths = Check.started("ibi b ib@");
        paths.input(-128 + 65);
        paths.input(127);
        paths.input(31);
        paths.step(20);
        CHECK.same("b of others", "A  ", Check.written(paths));
    }

    private static void input() {
        DrawnPaths paths = Check.drawing("iii i");
        CHECK.same("one", 1, paths.input(Long.MIN_VALUE));
        CHECK.same("two", 2, paths.input(8));
        CHECK.same("not read", 2, paths.count(4));
        paths.start();
        paths.step(3);
        CHECK.same("read", "3 0 0 0 [-1 8 -9223372036854775808] 0", Check.pointer(paths, 0));
        CHECK.same("none left", 0, paths.count(4));
        CHECK.same("three", 3, paths.input(6));
        CHECK.same("one left", 1, paths.count(4));
        paths.step(2);
        CHECK.same("read later", 6, paths.value(0, 0));
        paths.start();
        CHECK.same("all again", 3, paths.count(4));
        for (int k = 4; k <= 40; k++) {
            CHECK.same("more", k, paths.input(k));
        }
        for (int k = 0; k < 2; k++) {
            CHECK.raises("a 41st", IllegalStateException.class, () -> paths.input(1));
        }
        CHECK.same("forty", 40, paths.count(4));
    }

    private static void calls() {
        after("C", 3, "4 2 0 0 [] 1", "42C");
        after("C modulo", 5, "0 1 0 0 [] 1", "93+9C");
        after("C below 0", 7, "11 7 0 0 [] 1", "01-01-C");
        after("C with numbers below", 4, "4 2 0 0 [7] 1", "742C");
        after("C of none", 1, "0 0 0 0 [] 1", "C");
        after("R", 4, "3 0 0 0 [] 0", "42C", "", "    R");
        after("R to the direction that was", 5, "3 0 0 0 [] 0", "42C", "", "    v", "    R");
        after("the latest return", 9, "9 2 0 0 [] 1", "42C", "", "    42+4C", "", "      R");
        after("the one before it", 10, "3 0 0 0 [] 0", "42C", "", "    42+4CR", "", "      R");
        DrawnPaths none = Check.started(" R");
        CHECK.same("R without any", DrawnPaths.ENDED, none.step(5));
        CHECK.same("its steps", 2, none.count(1));
        DrawnPaths deep = Check.started("C");
        CHECK.same("eight returns", DrawnPaths.RUNNING, deep.step(8));
        CHECK.same("eight", 8, deep.pointer(0, 5));
        CHECK.same("a ninth", 2, deep.step(1));
        CHECK.same("still eight", "0 0 0 0 [] 8", Check.pointer(deep, 0));
        CHECK.same("its steps", 8, deep.count(1));
    }

    private static void signsThatDoNothing() {
        for (char c = ' '; c <= '~'; c++) {
            if ("\"><v^/\\#0123456789+-*dmcsxrgw?nbiCRf@".indexOf(c) >= 0) {
                continue;
            }
            DrawnPaths paths = Check.started("57" + c);
            paths.step(3);
            CHECK.same("sign " + c, "3 0 0 0 [7 5] 0", Check.pointer(paths, 0));
        }
        DrawnPaths ending = Check.started("57@");
        CHECK.same("@", DrawnPaths.ENDED, ending.step(3));
        CHECK.same("none lives", 0, ending.count(0));
        CHECK.same("steps", 3, ending.count(1));
        CHECK.same("no more steps", DrawnPaths.ENDED, ending.step(3));
        CHECK.same("steps stay", 3, ending.count(1));
    }

    private static void starting() {
        DrawnPaths paths = Check.started("v", "5", "\"", "6", "7", "ni");
        paths.input(3);
        paths.step(5);
        CHECK.same("on its way", "0 5 1 1 [55 54 5] 0", Check.pointer(paths, 0));
        paths.start();
        CHECK.same("started again", "0 0 0 0 [] 0", Check.pointer(paths, 0));
        CHECK.same("no steps", 0, paths.count(1));
        CHECK.same("one lives", 1, paths.count(0));
        DrawnPaths many = Check.started("42Cf", "", "    0f7nn");
        many.step(7);
        CHECK.same("two live", 2, many.count(0));
        many.start();
        CHECK.same("one lives, others are gone", 1, many.count(0));
        CHECK.same("no returns", 0, many.pointer(0, 5));
        CHECK.same("no output", 0, many.output());
        DrawnPaths stopped = Check.started("C");
        CHECK.same("stopped", 2, stopped.step(1000));
        stopped.start();
        CHECK.same("no longer stopped", DrawnPaths.RUNNING, stopped.count(5));
        CHECK.same("it runs", DrawnPaths.RUNNING, stopped.step(3));
    }

    private static void wrongCalls() {
        DrawnPaths paths = Check.started("57c");
        int[] wrong = {0, -1, 1001, Integer.MIN_VALUE, Integer.MAX_VALUE};
        for (int n : wrong) {
            CHECK.noArgument("step(" + n + ")", () -> paths.step(n));
            CHECK.noArgument("fast(" + n + ")", () -> paths.fast(n));
        }
        CHECK.same("nothing done", 0, paths.count(1));
        CHECK.same("nothing made", 0, paths.count(2));
        paths.step(2);
        int[] noPointers = {-1, 1, 4, Integer.MIN_VALUE, Integer.MAX_VALUE};
        for (int k : noPointers) {
            CHECK.noPlace("pointer " + k, () -> paths.pointer(k, 0));
            CHECK.noPlace("pointer " + k + " first", () -> paths.pointer(k, 6));
            CHECK.noPlace("value of " + k, () -> paths.value(k, 0));
        }
        int[] noWhats = {-1, 6, Integer.MIN_VALUE, Integer.MAX_VALUE};
        for (int what : noWhats) {
            CHECK.noArgument("pointer(0, " + what + ")", () -> paths.pointer(0, what));
        }
        int[] noNumbers = {-1, 2, 24, Integer.MIN_VALUE, Integer.MAX_VALUE};
        for (int i : noNumbers) {
            CHECK.noPlace("value(0, " + i + ")", () -> paths.value(0, i));
        }
        CHECK.same("the top", 7, paths.value(0, 0));
        CHECK.same("below it", 5, paths.value(0, 1));
    }
}

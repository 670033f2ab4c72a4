/** "Terms", what a pointer has, how many live, and what a step is. */
public final class TermsPointersTest {
    private static final Check CHECK = new Check("TermsPointersTest");
    private static final long MIN = Long.MIN_VALUE;
    private static final long MAX = Long.MAX_VALUE;

    public static void main(String[] args) {
        CHECK.sentence("a STACK of at most 24 numbers", TermsPointersTest::twentyFourNumbers);
        CHECK.sentence("of 64 bits (wrapping),", TermsPointersTest::sixtyFourBits);
        CHECK.sentence("of 64 bits (wrapping),", TermsPointersTest::wrapping);
        CHECK.sentence("at most 8 RETURNS.", TermsPointersTest::eightReturns);
        CHECK.sentence("at most 8 RETURNS.", TermsPointersTest::roomForReturnsAgain);
        CHECK.sentence("A number popped from an empty stack is 0.", TermsPointersTest::emptyStack);
        CHECK.sentence("A number popped from an empty stack is 0.", TermsPointersTest::oneNumber);
        CHECK.sentence("A number popped from an empty stack is 0.", TermsPointersTest::emptyStackOfActs);
        CHECK.sentence("At most four pointers live.", TermsPointersTest::fourPointers);
        CHECK.sentence("At most four pointers live.", TermsPointersTest::placesThatEndedOnesLeave);
        CHECK.sentence("A STEP lets each pointer that lived before it,", TermsPointersTest::newOnesWait);
        CHECK.sentence("A STEP lets each pointer that lived before it,", TermsPointersTest::eachDoesItsSign);
        CHECK.sentence("in the order in which they began,", TermsPointersTest::inOrder);
        CHECK.sentence("in the order in which they began,", TermsPointersTest::inOrderWhenOneEnds);
        CHECK.sentence("do the sign on its place;", TermsPointersTest::theSignAsItIsThen);
        CHECK.end();
    }

    private static void twentyFourNumbers() {
        DrawnPaths paths = Pose.at(3, 3, 0, Pose.numbers(23));
        CHECK.same("a 24th number", DrawnPaths.RUNNING, Pose.act(paths, '9'));
        CHECK.same("24", 24, paths.pointer(0, 4));
        CHECK.same("the top", 9, paths.value(0, 0));
        for (int i = 1; i < 24; i++) {
            CHECK.same("number " + i, 5 + (23 - i) % 4, paths.value(0, i));
        }
        CHECK.same("a 25th number", 2, Pose.act(paths, '9'));
        CHECK.same("24 still", 24, paths.pointer(0, 4));
    }

    /** What a sign makes of two numbers. */
    private static void makes(long want, long a, char sign, long b) {
        DrawnPaths paths = Pose.at(3, 3, 0, 77, a, b);
        CHECK.same("state", DrawnPaths.RUNNING, Pose.act(paths, sign));
        CHECK.same(a + " " + b + " " + sign, want, paths.value(0, 0));
        CHECK.same("how many are left", 2, paths.pointer(0, 4));
        CHECK.same("what is below", 77, paths.value(0, 1));
    }

    private static void sixtyFourBits() {
        long[] numbers = {MIN, MAX, MIN + 1, -1, 1L << 32, -(1L << 32), 1L << 31, 0x0123456789abcdefL};
        DrawnPaths paths = Pose.at(3, 3, 0, numbers);
        for (int i = 0; i < numbers.length; i++) {
            CHECK.same("number " + i, numbers[numbers.length - 1 - i], paths.value(0, i));
        }
        makes(1L << 32, 1L << 31, '+', 1L << 31);
        makes(1L << 40, 1L << 20, '*', 1L << 20);
        makes(-(1L << 33), 0, '-', 1L << 33);
        makes(1L << 8, 1L << 40, 'd', 1L << 32);
        makes(5, (1L << 40) + 5, 'm', 1L << 39);
    }

    private static void wrapping() {
        makes(MIN, MAX, '+', 1);
        makes(-2, MAX, '+', MAX);
        makes(0, MIN, '+', MIN);
        makes(MAX, MIN, '-', 1);
        makes(MIN, 0, '-', MIN);
        makes(-2, MAX, '*', 2);
        makes(1, MAX, '*', MAX);
        makes(MIN, MIN, '*', -1);
        makes(0, 1L << 32, '*', 1L << 32);
        makes(MIN, MIN, 'd', -1);
        makes(0, MIN, 'm', -1);
    }

    private static void call(DrawnPaths paths, long x, long y) {
        Pose.push(paths, x, y);
        Pose.act(paths, 'C');
    }

    private static void eightReturns() {
        DrawnPaths paths = Pose.at(0, 1, 0);
        for (int k = 0; k < 8; k++) {
            CHECK.same("returns", k, paths.pointer(0, 5));
            call(paths, k, k + 2);
        }
        CHECK.same("eight", 8, paths.pointer(0, 5));
        CHECK.same("it runs", DrawnPaths.RUNNING, paths.count(5));
        // The one made by call k lies three places behind where call k - 1 went.
        for (int k = 7; k >= 1; k--) {
            Pose.act(paths, 'R');
            CHECK.same("return " + k, (k - 1 + 3) + " " + (k + 1) % 8 + " 0", Pose.place(paths, 0));
            CHECK.same("returns left", k, paths.pointer(0, 5));
        }
        Pose.act(paths, 'R');
        CHECK.same("the first one", "3 1 0", Pose.place(paths, 0));
        CHECK.same("one without any", DrawnPaths.ENDED, Pose.act(paths, 'R'));
    }

    private static void roomForReturnsAgain() {
        DrawnPaths paths = Pose.at(3, 3, 0);
        for (int k = 0; k < 8; k++) {
            Pose.act(paths, 'C');
        }
        Pose.act(paths, 'R');
        CHECK.same("seven", 7, paths.pointer(0, 5));
        CHECK.same("an eighth again", DrawnPaths.RUNNING, Pose.act(paths, 'C'));
        CHECK.same("eight", 8, paths.pointer(0, 5));
        CHECK.same("a ninth", 2, Pose.act(paths, 'C'));
    }

    /** The numbers from the top, when a pointer with some has done a sign. */
    private static void leaves(String want, char sign, long... numbers) {
        DrawnPaths paths = Pose.at(4, 4, 0, numbers);
        CHECK.same("state", DrawnPaths.RUNNING, Pose.act(paths, sign));
        String all = Check.pointer(paths, 0);
        CHECK.same(sign + " on " + numbers.length, want, all.substring(all.indexOf('['), all.indexOf(']') + 1));
    }

    private static void emptyStack() {
        String oneZero = "+-*dmr";
        for (int k = 0; k < oneZero.length(); k++) {
            leaves("[0]", oneZero.charAt(k));
        }
        leaves("[0 0]", 'c');
        leaves("[0 0]", 's');
        leaves("[]", 'x');
        leaves("[32]", 'g');
        String nothing = "w?nbCf";
        for (int k = 0; k < nothing.length(); k++) {
            leaves("[]", nothing.charAt(k));
        }
    }

    private static void oneNumber() {
        // The number that is there is b, the one that is not is a.
        leaves("[6]", '+', 6);
        leaves("[-6]", '-', 6);
        leaves("[0]", '*', 6);
        leaves("[0]", 'd', 6);
        leaves("[0]", 'm', 6);
        leaves("[0 6]", 's', 6);
        leaves("[0]", 'r', 0);
        leaves("[0]", 'r', 1);
        DrawnPaths paths = Pose.at(4, 4, 0, 2);
        paths.put(0, 2, 'q');
        Pose.act(paths, 'g');
        CHECK.same("g of 0, 2", 'q', paths.value(0, 0));
    }

    private static void emptyStackOfActs() {
        DrawnPaths paths = Pose.at(4, 4, 0);
        paths.put(0, 0, 'q');
        Pose.act(paths, 'w');
        CHECK.same("w writes the blank for 0 on 0, 0", ' ', paths.sign(0, 0));
        DrawnPaths column = Pose.at(4, 4, 0, 'k', 3);
        Pose.act(column, 'w');
        CHECK.same("w of two writes 0 on k modulo 12", ' ', column.sign('k' % 12, 3));
        Pose.act(paths, '?');
        CHECK.same("? goes straight on", "6 4 0", Pose.place(paths, 0));
        Pose.act(paths, 'n');
        Pose.act(paths, 'b');
        CHECK.same("n and b", "0  ", Check.written(paths));
        Pose.act(paths, 'f');
        CHECK.same("f gives a 0", "8 3 3 0 [0] 0", Check.pointer(paths, 1));
        Pose.act(paths, 'C');
        CHECK.same("C goes to 0, 0", "0 0 0 0 [] 1", Check.pointer(paths, 0));
        DrawnPaths row = Pose.at(4, 4, 0, 6);
        Pose.act(row, 'C');
        CHECK.same("C of one goes to 0, 6", "0 6 0 0 [] 1", Check.pointer(row, 0));
    }

    private static void fourPointers() {
        DrawnPaths paths = Pose.several(3);
        Pose.act(paths, 'f');
        CHECK.same("a fourth", 4, paths.count(0));
        Pose.push(paths, 8, 9);
        for (int k = 3; k >= 0; k--) {
            Pose.act(paths, k, 'f');
            CHECK.same("no fifth by " + k, 4, paths.count(0));
        }
        CHECK.noPlace("no fifth", () -> paths.pointer(4, 0));
        CHECK.same("its number is popped", "2 0 1 0 [8] 0", Check.pointer(paths, 0));
    }

    private static void placesThatEndedOnesLeave() {
        DrawnPaths paths = Pose.several(4);
        Pose.act(paths, 2, '@');
        CHECK.same("three", 3, paths.count(0));
        Pose.act(paths, 'f');
        CHECK.same("four again", 4, paths.count(0));
        Pose.under(paths, 0, '@');
        Pose.under(paths, 1, 'f');
        paths.step(1);
        CHECK.same("one ends before another forks", 4, paths.count(0));
        DrawnPaths late = Pose.several(4);
        Pose.under(late, 0, 'f');
        Pose.under(late, 1, '@');
        late.step(1);
        CHECK.same("one ends behind it", 3, late.count(0));
    }

    private static void newOnesWait() {
        DrawnPaths paths = Pose.at(4, 4, 0, 7);
        paths.put(4, 3, '9');
        Pose.act(paths, 'f');
        CHECK.same("it has not done its sign", "4 3 3 0 [7] 0", Check.pointer(paths, 1));
        paths.step(1);
        CHECK.same("it has then", "4 2 3 0 [9 7] 0", Check.pointer(paths, 1));
        CHECK.same("so has the first", "6 4 0 0 [] 0", Check.pointer(paths, 0));
    }

    private static void eachDoesItsSign() {
        DrawnPaths paths = Pose.several(4);
        for (int k = 0; k < 4; k++) {
            Pose.under(paths, k, (char) ('5' + k));
        }
        int before = paths.count(1);
        paths.step(1);
        for (int k = 0; k < 4; k++) {
            CHECK.same("the sign of " + k, 5 + k, paths.value(k, 0));
        }
        CHECK.same("it is one step", before + 1, paths.count(1));
    }

    private static void inOrder() {
        DrawnPaths paths = Pose.several(4);
        for (int k = 0; k < 4; k++) {
            Pose.under(paths, k, (char) ('5' + k));
        }
        paths.step(1);
        for (int k = 0; k < 4; k++) {
            Pose.under(paths, k, 'n');
        }
        paths.step(1);
        CHECK.same("written in order", "5 6 7 8 ", Check.written(paths));
        for (int k = 0; k < 4; k++) {
            Pose.under(paths, k, 'i');
            paths.input(30 + k);
        }
        paths.step(1);
        for (int k = 0; k < 4; k++) {
            CHECK.same("read in order", 30 + k, paths.value(k, 0));
        }
    }

    private static void inOrderWhenOneEnds() {
        DrawnPaths paths = Pose.several(4);
        for (int k = 0; k < 4; k++) {
            Pose.under(paths, k, (char) ('5' + k));
        }
        paths.step(1);
        Pose.under(paths, 0, 'n');
        Pose.under(paths, 1, '@');
        Pose.under(paths, 2, 'n');
        Pose.under(paths, 3, 'f');
        paths.step(1);
        CHECK.same("each did its own sign", "5 7 ", Check.written(paths));
        CHECK.same("four live", 4, paths.count(0));
        CHECK.same("the one that began is the last", "[8]", stack(paths, 3));
        CHECK.same("the one that began it is before", "[0]", stack(paths, 2));
    }

    private static String stack(DrawnPaths paths, int k) {
        String all = Check.pointer(paths, k);
        return all.substring(all.indexOf('['), all.indexOf(']') + 1);
    }

    private static void theSignAsItIsThen() {
        // The first one writes where the second one stands, in the same step: it does the new sign.
        DrawnPaths paths = Pose.several(2);
        Pose.push(paths, '7');
        int x = paths.pointer(1, 0);
        int y = Math.floorMod(paths.pointer(1, 1) - 2, 8);
        Pose.push(paths, x, y);
        CHECK.same("the second one is there", x + " " + y + " 3", Pose.place(paths, 1));
        Pose.under(paths, 0, 'w');
        paths.step(1);
        CHECK.same("it did the sign that was written", 7, paths.value(1, 0));
        // The second one writes where the first one stood: it did the old sign before.
        DrawnPaths late = Pose.several(2);
        pushTo(late, 1, '7');
        int column = late.pointer(0, 0);
        int row = Math.floorMod(late.pointer(0, 1) + 2, 8);
        pushTo(late, 1, column);
        pushTo(late, 1, row);
        CHECK.same("the first one is there", column + " " + row + " 1", Pose.place(late, 0));
        Pose.under(late, 0, '4');
        Pose.under(late, 1, 'w');
        late.step(1);
        CHECK.same("it did the sign that was there", 4, late.value(0, 0));
        CHECK.same("which is another now", '7', late.sign(column, row));
    }

    private static void pushTo(DrawnPaths paths, int k, long number) {
        paths.input(number);
        Pose.act(paths, k, 'i');
    }
}

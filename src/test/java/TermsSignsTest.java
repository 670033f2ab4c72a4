/** "Terms", what each sign does: a test for each sentence, with its edges. */
public final class TermsSignsTest {
    private static final Check CHECK = new Check("TermsSignsTest");
    private static final long MIN = Long.MIN_VALUE;
    private static final long MAX = Long.MAX_VALUE;
    private static final long[] FAR = {0, 1, 7, 8, 11, 12, 13, 95, 96, -1, -7, -8, -9, -11, -12, -13, -96,
        1L << 32, -(1L << 32), (1L << 32) + 5, MAX, MAX - 1, MIN, MIN + 1};

    public static void main(String[] args) {
        waysOfPointers();
        reckoning();
        fieldAndOutput();
        callsAndForks();
        CHECK.end();
    }

    private static void waysOfPointers() {
        CHECK.sentence("QUOTED: the sign's code is pushed;", TermsSignsTest::quoted);
        CHECK.sentence("but \" ends that.", TermsSignsTest::quotesEnd);
        CHECK.sentence("Otherwise: \" begins it.", TermsSignsTest::quotesBegin);
        CHECK.sentence("> v < ^ make the direction 0, 1, 2, 3.", TermsSignsTest::arrows);
        CHECK.sentence("/ makes 0 3, 3 0, 2 1, 1 2;", () -> mirror('/', 3, 2, 1, 0));
        CHECK.sentence("\\ makes 0 1, 1 0, 2 3, 3 2.", () -> mirror('\\', 1, 0, 3, 2));
        CHECK.sentence("# moves one place more.", TermsSignsTest::onePlaceMore);
        CHECK.sentence("@ ends the pointer.", TermsSignsTest::ends);
        CHECK.sentence("Others do nothing.", TermsSignsTest::others);
    }

    private static void reckoning() {
        CHECK.sentence("0 .. 9 push that number.", TermsSignsTest::digits);
        CHECK.sentence("+ - * d m pop b, then a, and push a + b, a - b, a * b, a / b, a % b",
                TermsSignsTest::twoNumbers);
        CHECK.sentence("(the last two 0 if b is 0;", TermsSignsTest::byZero);
        CHECK.sentence("/ rounds to 0,", TermsSignsTest::roundsToZero);
        CHECK.sentence("% has the sign of a).", TermsSignsTest::signOfRest);
        CHECK.sentence("c pops a and pushes it twice;", TermsSignsTest::twice);
        CHECK.sentence("s pops b, then a, pushes b, then a;", TermsSignsTest::swapped);
        CHECK.sentence("x pops;", TermsSignsTest::popped);
        CHECK.sentence("r pops n and pushes that n-th from the top of what is left then, counted from 0,",
                TermsSignsTest::fromTheTop);
        CHECK.sentence("or 0 if there is none such.", TermsSignsTest::noneSuch);
    }

    private static void fieldAndOutput() {
        CHECK.sentence("g pops y, then x, and pushes the code of the sign there;", TermsSignsTest::getsSigns);
        CHECK.sentence("w pops y, then x, then v, and writes the sign v & 127 there,", TermsSignsTest::writesSigns);
        CHECK.sentence("a blank if that is none:", TermsSignsTest::writesNone);
        String modulo = "x and y are taken modulo 12 and 8, from 0 on.";
        CHECK.sentence(modulo, TermsSignsTest::getsFar);
        CHECK.sentence(modulo, TermsSignsTest::writesFar);
        CHECK.sentence("? pops a: above 0 it turns right, below 0 left.", TermsSignsTest::asks);
        CHECK.sentence("n pops a and writes it in decimal and a blank on the OUTPUT;", TermsSignsTest::decimals);
        CHECK.sentence("b pops a and writes the character a & 127,", TermsSignsTest::characters);
        CHECK.sentence("a blank if that is none.", TermsSignsTest::noCharacters);
        CHECK.sentence("i pushes the next number of the INPUT,", TermsSignsTest::nextOfInput);
        CHECK.sentence("-1 if there is none.", TermsSignsTest::noInput);
    }

    private static void callsAndForks() {
        CHECK.sentence("C pops y, then x;", TermsSignsTest::callPops);
        CHECK.sentence("the place to which it would move, and its direction, become the latest return;",
                TermsSignsTest::callKeepsReturn);
        CHECK.sentence("it goes to x, y (modulo, as said), the sign there being the next.",
                TermsSignsTest::callGoes);
        CHECK.sentence("R goes to the latest return, which is gone,", TermsSignsTest::latestReturn);
        CHECK.sentence("with the direction that it had, the sign there being the next;",
                TermsSignsTest::returnHasDirection);
        CHECK.sentence("without any the pointer ends.", TermsSignsTest::noReturn);
        CHECK.sentence("f pops a;", TermsSignsTest::forkPops);
        CHECK.sentence("if fewer than four pointers live then,", TermsSignsTest::fewerThanFour);
        CHECK.sentence("a new one begins, with a on its stack,", TermsSignsTest::newOnesStack);
        CHECK.sentence("directed left of this one, one move in that direction away;", TermsSignsTest::newOnesPlace);
        CHECK.sentence("it goes on itself.", TermsSignsTest::forkGoesOn);
    }

    /** The pointer when one posed on 5, 4 has done a sign. */
    private static void after(String want, int direction, char sign, long... numbers) {
        DrawnPaths paths = Pose.at(5, 4, direction, numbers);
        int steps = paths.count(1);
        CHECK.same("state of " + sign, DrawnPaths.RUNNING, Pose.act(paths, sign));
        CHECK.same(sign + " to " + direction, want, Check.pointer(paths, 0));
        CHECK.same("steps of " + sign, steps + 1, paths.count(1));
    }

    /** The stack, from the top, when one to the east has done a sign. */
    private static void leaves(String want, char sign, long... numbers) {
        after("6 4 0 0 [" + want + "] 0", 0, sign, numbers);
    }

    private static final String[] MOVED = {"6 4 0", "5 5 1", "4 4 2", "5 3 3"};

    private static void quoted() {
        for (char c = 32; c <= 126; c++) {
            if (c == '"') {
                continue;
            }
            DrawnPaths paths = Pose.at(4, 4, 0, 8);
            Pose.act(paths, '"');
            CHECK.same("state", DrawnPaths.RUNNING, Pose.act(paths, c));
            CHECK.same("quoted " + c, "6 4 0 1 [" + (int) c + " 8] 0", Check.pointer(paths, 0));
            CHECK.same("one lives", 1, paths.count(0));
            CHECK.same("nothing written", 0, paths.output());
        }
    }

    private static void quotesEnd() {
        DrawnPaths paths = Pose.at(4, 4, 1);
        Pose.act(paths, '"');
        Pose.act(paths, '"');
        CHECK.same("ended at once", "4 6 1 0 [] 0", Check.pointer(paths, 0));
        Pose.act(paths, '"');
        Pose.act(paths, 'v');
        Pose.act(paths, '"');
        CHECK.same("ended", "4 1 1 0 [118] 0", Check.pointer(paths, 0));
        Pose.act(paths, '5');
        CHECK.same("signs are done again", 5, paths.value(0, 0));
    }

    private static void quotesBegin() {
        for (int direction = 0; direction < 4; direction++) {
            after(MOVED[direction] + " 1 [] 0", direction, '"');
        }
    }

    private static void arrows() {
        for (int direction = 0; direction < 4; direction++) {
            for (int to = 0; to < 4; to++) {
                after(MOVED[to] + " 0 [] 0", direction, Pose.ARROWS[to].charAt(0));
            }
        }
    }

    private static void mirror(char sign, int... made) {
        for (int direction = 0; direction < 4; direction++) {
            after(MOVED[made[direction]] + " 0 [] 0", direction, sign);
        }
    }

    private static void onePlaceMore() {
        String[] moved = {"7 4 0", "5 6 1", "3 4 2", "5 2 3"};
        for (int direction = 0; direction < 4; direction++) {
            after(moved[direction] + " 0 [] 0", direction, '#');
        }
        DrawnPaths paths = Check.started("#@4");
        paths.step(2);
        CHECK.same("what is passed is not done", "3 0 0 0 [4] 0", Check.pointer(paths, 0));
        DrawnPaths twice = Check.started("##7");
        twice.step(1);
        CHECK.same("nor is another #", "2 0 0 0 [] 0", Check.pointer(twice, 0));
    }

    private static void ends() {
        DrawnPaths paths = Pose.at(5, 4, 0, 3);
        int steps = paths.count(1);
        CHECK.same("@", DrawnPaths.ENDED, Pose.act(paths, '@'));
        CHECK.same("none lives", 0, paths.count(0));
        CHECK.same("the step is counted", steps + 1, paths.count(1));
        int[][] columns = {{0, 1}, {2, 1}, {2, 0}};
        for (int k = 0; k < 3; k++) {
            DrawnPaths three = Pose.several(3);
            CHECK.same("others live", DrawnPaths.RUNNING, Pose.act(three, k, '@'));
            CHECK.same("two of them", 2, three.count(0));
            CHECK.same("the first behind " + k, columns[k][0], three.pointer(0, 0));
            CHECK.same("the second behind " + k, columns[k][1], three.pointer(1, 0));
        }
    }

    private static void others() {
        String known = "\"><v^/\\#0123456789+-*dmcsxrgw?nbiCRf@";
        int done = 0;
        for (char c = 32; c <= 126; c++) {
            if (known.indexOf(c) < 0) {
                after("6 4 0 0 [9 8] 0", 0, c, 8, 9);
                after("5 3 3 0 [] 0", 3, c);
                done++;
            }
        }
        CHECK.same("how many there are", 95 - 37, done);
    }

    private static void digits() {
        for (int digit = 0; digit < 10; digit++) {
            leaves(digit + " 4", (char) ('0' + digit), 4);
        }
    }

    private static void twoNumbers() {
        leaves("11 4", '+', 4, 9, 2);
        leaves("7 4", '-', 4, 9, 2);
        leaves("-7 4", '-', 4, 2, 9);
        leaves("18 4", '*', 4, 9, 2);
        leaves("4 4", 'd', 4, 9, 2);
        leaves("0 4", 'd', 4, 2, 9);
        leaves("1 4", 'm', 4, 9, 2);
        leaves("2 4", 'm', 4, 2, 9);
    }

    private static void byZero() {
        long[] numbers = {0, 7, -7, MIN, MAX};
        for (long a : numbers) {
            leaves("0 4", 'd', 4, a, 0);
            leaves("0 4", 'm', 4, a, 0);
        }
    }

    private static void roundsToZero() {
        leaves("3", 'd', 7, 2);
        leaves("-3", 'd', -7, 2);
        leaves("-3", 'd', 7, -2);
        leaves("3", 'd', -7, -2);
        leaves("0", 'd', -1, 2);
        leaves("0", 'd', 1, MIN);
        leaves("-1", 'd', MIN, MAX);
    }

    private static void signOfRest() {
        leaves("1", 'm', 7, 2);
        leaves("-1", 'm', -7, 2);
        leaves("1", 'm', 7, -2);
        leaves("-1", 'm', -7, -2);
        leaves("0", 'm', -8, 2);
        leaves("-1", 'm', MIN, MAX);
        leaves(Long.toString(MAX), 'm', MAX, MIN);
    }

    private static void twice() {
        leaves("9 9 8", 'c', 8, 9);
    }

    private static void swapped() {
        leaves("8 9 7", 's', 7, 8, 9);
    }

    private static void popped() {
        leaves("8", 'x', 8, 9);
        leaves("", 'x', 8);
    }

    private static void fromTheTop() {
        leaves("9 9 8 7", 'r', 7, 8, 9, 0);
        leaves("8 9 8 7", 'r', 7, 8, 9, 1);
        leaves("7 9 8 7", 'r', 7, 8, 9, 2);
        long[] many = Pose.numbers(24);
        many[0] = 1000;
        many[23] = 22;
        DrawnPaths full = Pose.at(5, 4, 0, many);
        CHECK.same("on a full stack", DrawnPaths.RUNNING, Pose.act(full, 'r'));
        CHECK.same("the lowest", 1000, full.value(0, 0));
        CHECK.same("24 again", 24, full.pointer(0, 4));
    }

    private static void noneSuch() {
        long[] none = {3, 4, 24, -1, MIN, MAX, 1L << 32, -(1L << 32), (1L << 32) + 1};
        for (long n : none) {
            leaves("0 9 8 7", 'r', 7, 8, 9, n);
        }
        leaves("0", 'r', 0);
    }

    private static void getsSigns() {
        for (char c = 32; c <= 126; c++) {
            DrawnPaths paths = Pose.at(5, 4, 0, 6, 9, 2);
            paths.put(9, 2, c);
            paths.put(2, 1, c == '!' ? 'a' : '!');
            Pose.act(paths, 'g');
            CHECK.same("g of " + c, "6 4 0 0 [" + (int) c + " 6] 0", Check.pointer(paths, 0));
        }
    }

    private static void writesSigns() {
        for (char c = 33; c <= 126; c++) {
            long[] same = {c, c + 128, c - 128, MIN + c, MAX - 127 + c};
            DrawnPaths paths = Pose.at(5, 4, 0, 6, same[c % 5], 9, 2);
            Pose.act(paths, 'w');
            CHECK.same("w of " + same[c % 5], c, paths.sign(9, 2));
            CHECK.same("not on 2, 1", ' ', paths.sign(2, 1));
            CHECK.same("what is left", "6 4 0 0 [6] 0", Check.pointer(paths, 0));
        }
    }

    private static void writesNone() {
        for (int code = 0; code < 32; code++) {
            writesBlank(code);
        }
        long[] none = {32, 127, 128, 255, -1, -128, -97, MIN, MAX};
        for (long v : none) {
            writesBlank(v);
        }
    }

    private static void writesBlank(long v) {
        DrawnPaths paths = Pose.at(5, 4, 0, v, 9, 2);
        paths.put(9, 2, 'q');
        Pose.act(paths, 'w');
        CHECK.same("w of " + v, ' ', paths.sign(9, 2));
    }

    private static void getsFar() {
        for (long far : FAR) {
            DrawnPaths paths = Pose.at(5, 4, 0, far, 6);
            paths.put((int) Math.floorMod(far, 12L), 6, 'q');
            Pose.act(paths, 'g');
            CHECK.same("g of x " + far, 'q', paths.value(0, 0));
            DrawnPaths rows = Pose.at(5, 4, 0, 10, far);
            rows.put(10, (int) Math.floorMod(far, 8L), 'q');
            Pose.act(rows, 'g');
            CHECK.same("g of y " + far, 'q', rows.value(0, 0));
        }
    }

    private static void writesFar() {
        for (long far : FAR) {
            DrawnPaths paths = Pose.at(5, 4, 0, 'q', far, 6);
            Pose.act(paths, 'w');
            CHECK.same("w of x " + far, 'q', paths.sign((int) Math.floorMod(far, 12L), 6));
            DrawnPaths rows = Pose.at(5, 4, 0, 'q', 10, far);
            Pose.act(rows, 'w');
            CHECK.same("w of y " + far, 'q', rows.sign(10, (int) Math.floorMod(far, 8L)));
        }
    }

    private static void asks() {
        long[] above = {1, 2, MAX, 1L << 32};
        long[] below = {-1, -2, MIN, -(1L << 32)};
        for (int direction = 0; direction < 4; direction++) {
            for (int k = 0; k < 4; k++) {
                after(MOVED[(direction + 1) % 4] + " 0 [6] 0", direction, '?', 6, above[k]);
                after(MOVED[(direction + 3) % 4] + " 0 [6] 0", direction, '?', 6, below[k]);
            }
            after(MOVED[direction] + " 0 [6] 0", direction, '?', 6, 0);
        }
    }

    private static void decimals() {
        long[] numbers = {0, 5, 9, 10, 99, 100, -1, -9, -10, 1000000000000L, MAX, MIN, MIN + 1};
        for (long number : numbers) {
            DrawnPaths paths = Pose.at(5, 4, 0, 6, number);
            Pose.act(paths, 'n');
            CHECK.same("n of " + number, number + " ", Check.written(paths));
            CHECK.same("what is left", "6 4 0 0 [6] 0", Check.pointer(paths, 0));
        }
        DrawnPaths two = Pose.at(5, 4, 0, -40, 30);
        Pose.act(two, 'n');
        Pose.act(two, 'n');
        CHECK.same("one behind the other", "30 -40 ", Check.written(two));
    }

    private static void characters() {
        for (char c = 32; c <= 126; c++) {
            long[] same = {c, c + 128, c - 128, MIN + c, MAX - 127 + c};
            DrawnPaths paths = Pose.at(5, 4, 0, 6, same[c % 5]);
            Pose.act(paths, 'b');
            CHECK.same("b of " + same[c % 5], String.valueOf(c), Check.written(paths));
            CHECK.same("what is left", "6 4 0 0 [6] 0", Check.pointer(paths, 0));
        }
    }

    private static void noCharacters() {
        long[] none = {0, 1, 9, 10, 13, 31, 127, 128, 159, 255, -1, -128, -97, MIN, MAX};
        for (long a : none) {
            DrawnPaths paths = Pose.at(5, 4, 0, a);
            Pose.act(paths, 'b');
            CHECK.same("b of " + a, " ", Check.written(paths));
        }
    }

    private static void nextOfInput() {
        DrawnPaths paths = Pose.at(5, 4, 0);
        paths.input(MIN);
        paths.input(MAX);
        Pose.act(paths, 'i');
        CHECK.same("the first", "6 4 0 0 [" + MIN + "] 0", Check.pointer(paths, 0));
        paths.input(3);
        Pose.act(paths, 'i');
        Pose.act(paths, 'i');
        CHECK.same("the others", "8 4 0 0 [3 " + MAX + " " + MIN + "] 0", Check.pointer(paths, 0));
    }

    private static void noInput() {
        DrawnPaths paths = Pose.at(5, 4, 0);
        Pose.act(paths, 'i');
        CHECK.same("none", "6 4 0 0 [-1] 0", Check.pointer(paths, 0));
        CHECK.same("none is left", 0, paths.count(4));
        paths.input(7);
        CHECK.same("one is left", 1, paths.count(4));
        Pose.act(paths, 'i');
        Pose.act(paths, 'i');
        CHECK.same("one that came later, and none", "8 4 0 0 [-1 7 -1] 0", Check.pointer(paths, 0));
        DrawnPaths forty = Check.started("ix");
        for (int k = 1; k <= 40; k++) {
            forty.input(k);
        }
        forty.step(39 * 12 + 1);
        CHECK.same("the fortieth", 40, forty.value(0, 0));
        forty.step(12);
        CHECK.same("and none", -1, forty.value(0, 0));
    }

    private static void callPops() {
        after("9 2 0 0 [6] 1", 0, 'C', 6, 9, 2);
        after("2 1 3 0 [] 1", 3, 'C', 2, 9);
    }

    private static void callKeepsReturn() {
        for (int direction = 0; direction < 4; direction++) {
            DrawnPaths paths = Pose.at(5, 4, direction, 9, 2);
            Pose.act(paths, 'C');
            Pose.act(paths, Pose.ARROWS[(direction + 1) % 4].charAt(0));
            Pose.act(paths, 'R');
            CHECK.same("back to " + direction, MOVED[direction] + " 0 [] 0", Check.pointer(paths, 0));
        }
    }

    private static void callGoes() {
        for (int direction = 0; direction < 4; direction++) {
            after("9 2 " + direction + " 0 [] 1", direction, 'C', 9, 2);
        }
        for (long far : FAR) {
            after(Math.floorMod(far, 12L) + " 2 0 0 [] 1", 0, 'C', far, 2);
            after("9 " + Math.floorMod(far, 8L) + " 0 0 [] 1", 0, 'C', 9, far);
        }
        DrawnPaths paths = Pose.at(5, 4, 0, 9, 2);
        paths.put(9, 2, '7');
        Pose.act(paths, 'C');
        paths.step(1);
        CHECK.same("the sign there is the next", "10 2 0 0 [7] 1", Check.pointer(paths, 0));
    }

    private static void latestReturn() {
        DrawnPaths paths = Pose.at(5, 4, 0, 3, 3, 1, 1);
        Pose.act(paths, 'C');
        CHECK.same("called", "1 1 0 0 [3 3] 1", Check.pointer(paths, 0));
        Pose.act(paths, 'C');
        CHECK.same("called again", "3 3 0 0 [] 2", Check.pointer(paths, 0));
        Pose.act(paths, 'R');
        CHECK.same("the latest", "2 1 0 0 [] 1", Check.pointer(paths, 0));
        Pose.act(paths, 'R');
        CHECK.same("the one before", "6 4 0 0 [] 0", Check.pointer(paths, 0));
    }

    private static void returnHasDirection() {
        for (int direction = 0; direction < 4; direction++) {
            DrawnPaths paths = Pose.at(5, 4, 1, 9, 2);
            paths.put(5, 5, '8');
            Pose.act(paths, 'C');
            Pose.act(paths, Pose.ARROWS[direction].charAt(0));
            Pose.act(paths, 'R');
            CHECK.same("from " + direction, "5 5 1", Pose.place(paths, 0));
            paths.step(1);
            CHECK.same("the sign there is the next", "5 6 1 0 [8] 0", Check.pointer(paths, 0));
        }
    }

    private static void noReturn() {
        DrawnPaths paths = Pose.at(5, 4, 0, 3);
        int steps = paths.count(1);
        CHECK.same("R without any", DrawnPaths.ENDED, Pose.act(paths, 'R'));
        CHECK.same("none lives", 0, paths.count(0));
        CHECK.same("the step is counted", steps + 1, paths.count(1));
        DrawnPaths two = Pose.several(2);
        CHECK.same("another lives", DrawnPaths.RUNNING, Pose.act(two, 1, 'R'));
        CHECK.same("the first", "1 2 1", Pose.place(two, 0));
        CHECK.same("one lives", 1, two.count(0));
    }

    private static void forkPops() {
        after("6 4 0 0 [7] 0", 0, 'f', 7, 8);
        DrawnPaths four = Pose.several(4);
        Pose.push(four, 7, 8);
        Pose.act(four, 'f');
        CHECK.same("with four, too", 1, four.pointer(0, 4));
        CHECK.same("what is left", 7, four.value(0, 0));
    }

    private static void fewerThanFour() {
        for (int living = 1; living <= 4; living++) {
            DrawnPaths paths = Pose.several(living);
            Pose.act(paths, living - 1, 'f');
            CHECK.same("f with " + living, Math.min(living + 1, 4), paths.count(0));
        }
    }

    private static void newOnesStack() {
        DrawnPaths paths = Pose.at(5, 4, 0, 6, MIN);
        Pose.act(paths, 'C');
        Pose.push(paths, 7, MAX);
        Pose.act(paths, 'f');
        String all = Check.pointer(paths, 1);
        CHECK.same("one number, no quotes, no returns", "3 0 [" + MAX + "] 0", all.substring(4));
    }

    private static void newOnesPlace() {
        String[] places = {"5 3 3", "6 4 0", "5 5 1", "4 4 2"};
        for (int direction = 0; direction < 4; direction++) {
            DrawnPaths paths = Pose.at(5, 4, direction);
            Pose.act(paths, 'f');
            CHECK.same("from " + direction, places[direction], Pose.place(paths, 1));
        }
    }

    private static void forkGoesOn() {
        for (int direction = 0; direction < 4; direction++) {
            after(MOVED[direction] + " 0 [] 0", direction, 'f', 3);
        }
    }
}

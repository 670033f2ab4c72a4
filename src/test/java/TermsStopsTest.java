/** "Terms", what stops a run with 2 or with 3, what stays then, and the state. */
public final class TermsStopsTest {
    private static final Check CHECK = new Check("TermsStopsTest");
    private static final String PUSHING = "0123456789ci";

    public static void main(String[] args) {
        String full = "What would push to a full stack,";
        CHECK.sentence(full, TermsStopsTest::pushesToAFullStack);
        CHECK.sentence(full, TermsStopsTest::quotedPushes);
        CHECK.sentence(full, TermsStopsTest::popsBeforeItPushes);
        CHECK.sentence(full, TermsStopsTest::actsOnAFullStack);
        CHECK.sentence("or make a ninth return, STOPS the run with 2;", TermsStopsTest::ninthReturn);
        String longer = "what would make the output longer than 80 characters, with 3:";
        CHECK.sentence(longer, TermsStopsTest::characterTooMuch);
        CHECK.sentence(longer, TermsStopsTest::numberTooLong);
        CHECK.sentence("that pointer is as it was before the sign,", TermsStopsTest::asItWas);
        CHECK.sentence("that pointer is as it was before the sign,", TermsStopsTest::inputAsItWas);
        CHECK.sentence("and all behind it,", TermsStopsTest::allBehindIt);
        CHECK.sentence("and the step is not counted", TermsStopsTest::notCounted);
        String stays = "(what those before it did in this step stays, pointers that began by it, too).";
        CHECK.sentence(stays, TermsStopsTest::movesStay);
        CHECK.sentence(stays, TermsStopsTest::begunOnesStay);
        CHECK.sentence(stays, TermsStopsTest::endedOnesStayEnded);
        CHECK.sentence(stays, TermsStopsTest::writtenSignsStay);
        CHECK.sentence(stays, TermsStopsTest::outputAndInputStay);
        CHECK.sentence("The STATE is 0 while some pointer lives and nothing stopped,", TermsStopsTest::running);
        CHECK.sentence("1 if none lives,", TermsStopsTest::ended);
        CHECK.sentence("or 2 or 3.", TermsStopsTest::stopped);
        CHECK.end();
    }

    private static void stops(String what, int want, DrawnPaths paths, char sign) {
        String before = Check.pointer(paths, 0);
        CHECK.same(what + " " + sign, want, Pose.act(paths, sign));
        CHECK.same(what + " " + sign + ": state", want, paths.count(5));
        CHECK.same(what + " " + sign + ": as it was", before, Check.pointer(paths, 0));
    }

    private static void pushesToAFullStack() {
        for (int k = 0; k < PUSHING.length(); k++) {
            char sign = PUSHING.charAt(k);
            stops("on 24", 2, Pose.at(5, 4, 0, Pose.numbers(24)), sign);
            DrawnPaths room = Pose.at(5, 4, 0, Pose.numbers(23));
            CHECK.same(sign + " on 23", DrawnPaths.RUNNING, Pose.act(room, sign));
            CHECK.same(sign + " on 23: how many then", 24, room.pointer(0, 4));
        }
    }

    private static void quotedPushes() {
        String signs = " ~@?x+cnR";
        for (int k = 0; k < signs.length(); k++) {
            DrawnPaths paths = Pose.at(5, 4, 0, Pose.numbers(24));
            CHECK.same("quotes that begin", DrawnPaths.RUNNING, Pose.act(paths, '"'));
            stops("quoted on 24", 2, paths, signs.charAt(k));
            CHECK.same("quoted still", 1, paths.pointer(0, 3));
            DrawnPaths room = Pose.at(5, 4, 0, Pose.numbers(23));
            Pose.act(room, '"');
            CHECK.same("quoted on 23", DrawnPaths.RUNNING, Pose.act(room, signs.charAt(k)));
            CHECK.same("quotes that end on 24", DrawnPaths.RUNNING, Pose.act(room, '"'));
            CHECK.same("24", 24, room.pointer(0, 4));
        }
    }

    private static void goesOn(char sign, int left) {
        DrawnPaths paths = Pose.at(5, 4, 0, Pose.numbers(24));
        CHECK.same(sign + " on 24", DrawnPaths.RUNNING, Pose.act(paths, sign));
        CHECK.same(sign + " on 24: left", left, paths.pointer(0, 4));
    }

    private static void popsBeforeItPushes() {
        for (char sign : new char[] {'+', '-', '*', 'd', 'm', 'x', 'g'}) {
            goesOn(sign, 23);
        }
        goesOn('s', 24);
        goesOn('r', 24);
    }

    private static void actsOnAFullStack() {
        for (char sign : new char[] {'?', 'n', 'b', 'f'}) {
            goesOn(sign, 23);
        }
        goesOn('C', 22);
        goesOn('w', 21);
        for (char sign : new char[] {' ', '#', '/', '\\', '<', '^', 'v', '>', '"', 'k'}) {
            goesOn(sign, 24);
        }
    }

    private static DrawnPaths calledOften(int returns) {
        DrawnPaths paths = Pose.at(5, 4, 0);
        for (int k = 0; k < returns; k++) {
            Pose.push(paths, k, 5);
            Pose.act(paths, 'C');
        }
        return paths;
    }

    private static void ninthReturn() {
        DrawnPaths seven = calledOften(7);
        CHECK.same("an eighth", DrawnPaths.RUNNING, Pose.act(seven, 'C'));
        DrawnPaths eight = calledOften(8);
        Pose.push(eight, 4, 6);
        stops("with eight", 2, eight, 'C');
        CHECK.same("eight", 8, eight.pointer(0, 5));
        CHECK.same("its numbers", 2, eight.pointer(0, 4));
        DrawnPaths back = calledOften(8);
        CHECK.same("R with eight", DrawnPaths.RUNNING, Pose.act(back, 'R'));
        CHECK.same("seven", 7, back.pointer(0, 5));
        CHECK.same("the eighth is the one that goes", "9 5 0", Pose.place(back, 0));
    }

    /** So many blanks on the output, and a pointer on a blank field with a number. */
    private static DrawnPaths written(int size, long number) {
        DrawnPaths paths = Check.started("bbbbbbbbbbbb");
        if (size > 0) {
            paths.step(size);
        }
        paths.lay(0);
        Pose.push(paths, number);
        CHECK.same("written before", size, paths.output());
        return paths;
    }

    private static void fits(String what, int size, long number, char sign, int want) {
        DrawnPaths paths = written(size, number);
        CHECK.same(what + " behind " + size, DrawnPaths.RUNNING, Pose.act(paths, sign));
        CHECK.same(what + " behind " + size + ": how many", want, paths.output());
        CHECK.same(what + " behind " + size + ": popped", 0, paths.pointer(0, 4));
    }

    private static void tooMuch(String what, int size, long number, char sign) {
        DrawnPaths paths = written(size, number);
        stops(what + " behind " + size, 3, paths, sign);
        CHECK.same(what + " behind " + size + ": nothing written", size, paths.output());
    }

    private static void characterTooMuch() {
        fits("b", 78, 'a', 'b', 79);
        fits("b", 79, 'a', 'b', 80);
        tooMuch("b", 80, 'a', 'b');
        tooMuch("b of none", 80, 0, 'b');
    }

    private static void numberTooLong() {
        long[] numbers = {0, 9, -9, 10, -100, 123456, Long.MAX_VALUE, Long.MIN_VALUE};
        for (long number : numbers) {
            int size = Long.toString(number).length() + 1;
            fits("n of " + number, 79 - size, number, 'n', 79);
            fits("n of " + number, 80 - size, number, 'n', 80);
            tooMuch("n of " + number, 81 - size, number, 'n');
            tooMuch("n of " + number, 80, number, 'n');
        }
        DrawnPaths empty = written(79, 1);
        Pose.act(empty, 'x');
        stops("of an empty stack", 3, empty, 'n');
    }

    private static void asItWas() {
        for (int direction = 0; direction < 4; direction++) {
            for (char sign : new char[] {'7', 'c', 'i', '"'}) {
                DrawnPaths paths = Pose.at(5, 4, direction, 3, 3);
                Pose.act(paths, 'C');
                Pose.push(paths, Pose.numbers(24));
                if (sign == '"') {
                    Pose.act(paths, '"');
                }
                stops("to " + direction, 2, paths, sign == '"' ? 'q' : sign);
                CHECK.same("one return", 1, paths.pointer(0, 5));
                CHECK.same("its direction", direction, paths.pointer(0, 2));
            }
        }
    }

    private static void inputAsItWas() {
        DrawnPaths paths = Pose.at(5, 4, 0, Pose.numbers(24));
        paths.input(66);
        stops("with input", 2, paths, 'i');
        CHECK.same("not read", 1, paths.count(4));
    }

    /** Three pointers, of which the k-th has 24 numbers and stands on a digit. */
    private static DrawnPaths fullOne(int k) {
        DrawnPaths paths = Pose.several(3);
        Pose.fill(paths, k);
        Pose.under(paths, k, '7');
        return paths;
    }

    private static void allBehindIt() {
        for (int k = 0; k < 3; k++) {
            DrawnPaths paths = fullOne(k);
            String[] before = new String[3];
            for (int other = 0; other < 3; other++) {
                if (other > k) {
                    Pose.under(paths, other, '5');
                }
                before[other] = Check.pointer(paths, other);
            }
            CHECK.same("stopped by " + k, 2, paths.step(1));
            CHECK.same("three live", 3, paths.count(0));
            for (int other = 0; other < 3; other++) {
                boolean same = before[other].equals(Check.pointer(paths, other));
                CHECK.same(other + " when " + k + " stopped", other >= k, same);
            }
        }
        DrawnPaths ending = fullOne(1);
        Pose.under(ending, 2, '@');
        ending.step(1);
        CHECK.same("one behind does not end", 3, ending.count(0));
        DrawnPaths writing = fullOne(1);
        Pose.under(writing, 2, 'n');
        writing.step(1);
        CHECK.same("nor write", 0, writing.output());
    }

    private static void notCounted() {
        for (int k = 0; k < 3; k++) {
            DrawnPaths paths = fullOne(k);
            int steps = paths.count(1);
            paths.step(5);
            CHECK.same("steps when " + k + " stopped", steps, paths.count(1));
        }
        DrawnPaths late = Check.started("n");
        late.step(39 * 12 + 1);
        CHECK.same("forty numbers", 80, late.output());
        CHECK.same("one more", 3, late.step(1000));
        CHECK.same("steps before it", 40 * 12, late.count(1));
    }

    private static void movesStay() {
        DrawnPaths paths = fullOne(2);
        String first = Pose.place(paths, 0);
        Pose.under(paths, 0, '4');
        Pose.under(paths, 1, '"');
        int y = Math.floorMod(paths.pointer(0, 1) + 1, 8);
        CHECK.same("stopped", 2, paths.step(1));
        CHECK.same("the first moved", "2 " + y + " 1 0 [4] 0", Check.pointer(paths, 0));
        CHECK.same("not where it was", false, first.equals(Pose.place(paths, 0)));
        CHECK.same("the second is quoted", 1, paths.pointer(1, 3));
    }

    private static void begunOnesStay() {
        DrawnPaths paths = fullOne(1);
        Pose.under(paths, 0, 'f');
        int y = paths.pointer(0, 1);
        CHECK.same("stopped", 2, paths.step(1));
        CHECK.same("four live", 4, paths.count(0));
        CHECK.same("the one that began", "3 " + y + " 0 0 [0] 0", Check.pointer(paths, 3));
    }

    private static void endedOnesStayEnded() {
        DrawnPaths paths = fullOne(2);
        Pose.under(paths, 0, '@');
        Pose.under(paths, 1, 'R');
        String last = Check.pointer(paths, 2);
        CHECK.same("stopped", 2, paths.step(1));
        CHECK.same("one lives", 1, paths.count(0));
        CHECK.same("the last one", last, Check.pointer(paths, 0));
        CHECK.same("it is no end", 2, paths.count(5));
    }

    private static void writtenSignsStay() {
        // A block covers 0, 5 to 2, 5; then one pointer goes down column 4, another up column 3.
        DrawnPaths paths = Pose.at(0, 5, 0);
        paths.put(3, 5, '@');
        paths.fast(3);
        Pose.act(paths, 'f');
        Pose.act(paths, 'v');
        Pose.push(paths, 'q', 1, 5);
        Pose.fill(paths, 1);
        CHECK.same("the block is kept", 1, paths.covers(1, 5));
        Pose.under(paths, 0, 'w');
        Pose.under(paths, 1, '7');
        CHECK.same("stopped", 2, paths.step(1));
        CHECK.same("written", 'q', paths.sign(1, 5));
        CHECK.same("the block is dropped", 1, paths.count(3));
        CHECK.same("none is left", 0, paths.count(2));
    }

    private static void outputAndInputStay() {
        DrawnPaths paths = fullOne(2);
        paths.input(55);
        Pose.under(paths, 0, 'i');
        Pose.under(paths, 1, 'n');
        CHECK.same("stopped", 2, paths.step(1));
        CHECK.same("read", 0, paths.count(4));
        CHECK.same("its number", 55, paths.value(0, 0));
        CHECK.same("written", "0 ", Check.written(paths));
    }

    private static void running() {
        DrawnPaths paths = new DrawnPaths();
        paths.start();
        CHECK.same("just begun", 0, paths.count(5));
        CHECK.same("a step", 0, paths.step(1));
        CHECK.same("a fast one", 0, paths.fast(1));
        CHECK.same("then", 0, paths.count(5));
        DrawnPaths two = Pose.several(2);
        CHECK.same("one of two ends", 0, Pose.act(two, '@'));
        CHECK.same("one lives", 0, two.count(5));
    }

    private static void ended() {
        DrawnPaths paths = new DrawnPaths();
        CHECK.same("no run yet", 1, paths.count(5));
        CHECK.same("a step of none", 1, paths.step(3));
        CHECK.same("a fast one of none", 1, paths.fast(3));
        DrawnPaths two = Pose.several(2);
        Pose.act(two, '@');
        CHECK.same("the last ends", 1, Pose.act(two, '@'));
        CHECK.same("none lives", 1, two.count(5));
        DrawnPaths both = Pose.several(2);
        Pose.under(both, 0, '@');
        Pose.under(both, 1, 'R');
        CHECK.same("both end at once", 1, both.step(7));
        DrawnPaths cleared = fullOne(1);
        cleared.step(1);
        cleared.clear();
        CHECK.same("cleared", 1, cleared.count(5));
    }

    private static void stopped() {
        DrawnPaths[] all = {fullOne(0), written(80, 5)};
        Pose.under(all[1], 0, 'n');
        for (int k = 0; k < 2; k++) {
            DrawnPaths paths = all[k];
            CHECK.same("stopped", 2 + k, paths.step(1));
            int steps = paths.count(1);
            Pose.under(paths, 0, 'x');
            String before = Check.pointer(paths, 0);
            CHECK.same("still", 2 + k, paths.step(1000));
            CHECK.same("still, fast", 2 + k, paths.fast(1000));
            CHECK.same("state", 2 + k, paths.count(5));
            CHECK.same("no more is done", before, Check.pointer(paths, 0));
            CHECK.same("nor counted", steps, paths.count(1));
            CHECK.same("nor made", 0, paths.count(2));
            paths.start();
            CHECK.same("a new run", 0, paths.count(5));
            CHECK.same("it goes", 0, paths.step(1));
        }
    }
}

/** "Terms", acts, blocks, what they cover, fast runs, and what is dropped. */
public final class TermsBlocksTest {
    private static final Check CHECK = new Check("TermsBlocksTest");
    private static final String ACTS = "?nbiwCRf@";
    private static final String NO_BLOCK = "-1 -1 -1 -1 -1";

    public static void main(String[] args) {
        blocks();
        fastRuns();
        drops();
        CHECK.end();
    }

    private static void blocks() {
        CHECK.sentence("ACTS are the signs ? n b i w C R f @", TermsBlocksTest::acts);
        CHECK.sentence("(to one that is not quoted).", TermsBlocksTest::quotedActs);
        CHECK.sentence("A BLOCK begins with a place, a direction, and whether quoted,", TermsBlocksTest::eightBegin);
        CHECK.sentence("A BLOCK begins with a place, a direction, and whether quoted,", TermsBlocksTest::bothBegin);
        CHECK.sentence("and has the signs that a pointer alone does from there on:", TermsBlocksTest::windingWay);
        CHECK.sentence("up to before the first act,", TermsBlocksTest::beforeTheFirstAct);
        String same = "or before one done in the same place, direction, and so quoted, as one before;";
        CHECK.sentence(same, TermsBlocksTest::rings);
        CHECK.sentence(same, TermsBlocksTest::otherDirection);
        CHECK.sentence(same, TermsBlocksTest::otherQuotes);
        CHECK.sentence("32 at most.", TermsBlocksTest::thirtyTwoSigns);
        CHECK.sentence("It is not empty.", TermsBlocksTest::notEmpty);
        CHECK.sentence("It COVERS the places of its signs", TermsBlocksTest::coversItsSigns);
        CHECK.sentence("It COVERS the places of its signs", TermsBlocksTest::coversOnePlace);
        CHECK.sentence("(not one that # passes over).", TermsBlocksTest::passedOver);
    }

    private static void fastRuns() {
        CHECK.sentence("FAST: as long as just one pointer lives: if its sign is an act, it does it.",
                TermsBlocksTest::actsAreDone);
        CHECK.sentence("Otherwise, if no block begins so, it is MADE,", TermsBlocksTest::madeOnce);
        CHECK.sentence("if there are not 30", TermsBlocksTest::thirtyBlocks);
        CHECK.sentence("if there are not 30", TermsBlocksTest::roomAgain);
        CHECK.sentence("(whether or not its signs can be done then);", TermsBlocksTest::madeAllTheSame);
        String left = "if there is one that begins so, has no more signs than there are steps left,";
        CHECK.sentence(left, TermsBlocksTest::stepsLeft);
        CHECK.sentence(left, TermsBlocksTest::stepsLeftLater);
        String below = "and its number of signs added to that of the stack's numbers is below 24, all its signs are done;";
        CHECK.sentence(below, TermsBlocksTest::belowTwentyFour);
        CHECK.sentence(below, TermsBlocksTest::belowTwentyFourAlone);
        CHECK.sentence("otherwise one.", TermsBlocksTest::otherwiseOne);
        CHECK.sentence("With more pointers each step is done as said.", TermsBlocksTest::morePointers);
        CHECK.sentence("With more pointers each step is done as said.", TermsBlocksTest::oneAgain);
    }

    private static void drops() {
        String words = "Whenever a place gets another sign, all blocks that cover it are DROPPED.";
        CHECK.sentence(words, TermsBlocksTest::droppedByPut);
        CHECK.sentence(words, TermsBlocksTest::droppedByLay);
        CHECK.sentence(words, TermsBlocksTest::droppedByRuns);
        CHECK.sentence(words, TermsBlocksTest::droppedBySecondOnes);
        CHECK.sentence(words, TermsBlocksTest::keptAsTheyWere);
        CHECK.sentence(words, TermsBlocksTest::madeAnew);
    }

    private static void acts() {
        for (char c = 32; c <= 126; c++) {
            DrawnPaths paths = Pose.at(4, 4, 0);
            paths.put(5, 4, c);
            paths.fast(1);
            int want = ACTS.indexOf(c) >= 0 ? 0 : 1;
            CHECK.same("before " + c, want, paths.covers(5, 4));
            DrawnPaths first = Pose.at(4, 4, 0);
            Pose.under(first, 0, c);
            first.fast(1);
            CHECK.same("beginning with " + c, want, first.count(2));
        }
    }

    private static void quotedActs() {
        for (int k = 0; k < ACTS.length(); k++) {
            DrawnPaths paths = Pose.at(4, 4, 0);
            paths.put(4, 4, '"');
            paths.put(5, 4, ACTS.charAt(k));
            paths.put(6, 4, '"');
            paths.put(7, 4, '@');
            paths.fast(1);
            CHECK.same("over " + ACTS.charAt(k), "3 7 4 0 0", Check.block(paths, 4, 4, 0, false));
            paths.fast(1);
            CHECK.same("beginning with " + ACTS.charAt(k), "2 7 4 0 0", Check.block(paths, 5, 4, 0, true));
        }
    }

    private static void eightBegin() {
        for (int way = 0; way < 8; way++) {
            int direction = way / 2;
            boolean quoted = way % 2 == 1;
            DrawnPaths paths = Pose.at(5, 4, direction);
            if (quoted) {
                Pose.act(paths, '"');
            }
            int x = paths.pointer(0, 0);
            int y = paths.pointer(0, 1);
            paths.fast(1);
            for (int other = 0; other < 8; other++) {
                int size = paths.block(x, y, other / 2, other % 2 == 1, 0);
                CHECK.same("begins so", other == way, size != DrawnPaths.NONE);
            }
        }
    }

    private static void bothBegin() {
        DrawnPaths paths = Check.started("\"");
        for (int k = 0; k < 22; k++) {
            paths.fast(1);
        }
        CHECK.same("each place twice", 22, paths.count(2));
        CHECK.same("not quoted at first", "24 0 0 0 0", Check.block(paths, 0, 0, 0, false));
        CHECK.same("quoted", "24 3 0 0 1", Check.block(paths, 3, 0, 0, true));
        CHECK.same("not quoted", "24 3 0 0 0", Check.block(paths, 3, 0, 0, false));
    }

    private static void windingWay() {
        DrawnPaths paths = Check.started("1#@\\", "   \"", " >@@", "   \"", " ^</");
        paths.fast(1);
        CHECK.same("the block", "11 2 2 0 0", Check.block(paths, 0, 0, 0, false));
        int[] places = {0, 1, 3, 15, 27, 39, 51, 50, 49, 37, 25};
        for (int place = 0; place < 96; place++) {
            int want = 0;
            for (int its : places) {
                want += its == place ? 1 : 0;
            }
            CHECK.same("covers " + place, want, paths.covers(place % 12, place / 12));
        }
        paths.start();
        paths.fast(11);
        CHECK.same("done", "2 2 0 0 [64 1] 0", Check.pointer(paths, 0));
    }

    private static void beforeTheFirstAct() {
        for (int k = 0; k < ACTS.length(); k++) {
            for (int size = 1; size <= 11; size++) {
                DrawnPaths paths = Pose.at(0, 4, 0);
                for (int x = size; x < 12; x++) {
                    paths.put(x, 4, ACTS.charAt((x + k) % 9));
                }
                paths.fast(1);
                CHECK.same("up to " + size, size + " " + size + " 4 0 0", Check.block(paths, 0, 4, 0, false));
            }
        }
    }

    private static void rings() {
        DrawnPaths row = Check.started("");
        row.fast(1);
        CHECK.same("a row", "12 0 0 0 0", Check.block(row, 0, 0, 0, false));
        DrawnPaths column = Pose.at(3, 2, 3);
        column.fast(1);
        CHECK.same("a column", "8 3 2 3 0", Check.block(column, 3, 2, 3, false));
        DrawnPaths hopping = Check.started("#@#@#@#@#@#@");
        hopping.fast(1);
        CHECK.same("each second place", "6 0 0 0 0", Check.block(hopping, 0, 0, 0, false));
        DrawnPaths later = Check.started("  v", "  >v", "  ^<");
        later.fast(1);
        // It comes back to 2, 1, which it did to the south before: then to the north, then to 3, 1.
        CHECK.same("back to a later one", "8 3 1 0 0", Check.block(later, 0, 0, 0, false));
    }

    private static void otherDirection() {
        DrawnPaths paths = Check.started("   v", " v <<", " >  ^");
        paths.fast(1);
        CHECK.same("3, 1 is done to 1, then to 2", "13 2 1 2 0", Check.block(paths, 0, 0, 0, false));
        DrawnPaths crossing = Check.started("  v", "^ <", "", "", "", "", "", "@");
        crossing.fast(1);
        CHECK.same("0, 0 is done to 0, then to 3", "7 0 7 3 0", Check.block(crossing, 0, 0, 0, false));
    }

    private static void otherQuotes() {
        DrawnPaths paths = Check.started("1\"2");
        paths.fast(1);
        CHECK.same("each place twice", "24 0 0 0 0", Check.block(paths, 0, 0, 0, false));
        DrawnPaths shorter = Check.started("1\"2@");
        shorter.fast(1);
        CHECK.same("up to the act, which was quoted before", "15 3 0 0 0", Check.block(shorter, 0, 0, 0, false));
    }

    /** A way of so many signs to an act: row 0 to the east, row 1 to the west, row 2 to the east. */
    private static DrawnPaths winding(int size) {
        DrawnPaths paths = Check.started("           v", "v          <", ">          v", "           <");
        int row = size / 12;
        paths.put(row % 2 == 1 ? 11 - size % 12 : size % 12, row, '@');
        return paths;
    }

    private static void thirtyTwoSigns() {
        for (int size = 29; size <= 40; size++) {
            DrawnPaths paths = winding(size);
            paths.fast(1);
            String want = size <= 32 ? size + " " + (size - 24) + " 2 0 0" : "32 8 2 0 0";
            CHECK.same("of " + size, want, Check.block(paths, 0, 0, 0, false));
            CHECK.same("over the 32nd of " + size, size >= 32 ? 1 : 0, paths.covers(7, 2));
            CHECK.same("over the 33rd of " + size, 0, paths.covers(8, 2));
        }
    }

    private static void notEmpty() {
        for (int k = 0; k < ACTS.length(); k++) {
            DrawnPaths paths = Pose.at(5, 4, 0);
            Pose.under(paths, 0, ACTS.charAt(k));
            paths.fast(1);
            CHECK.same("none at " + ACTS.charAt(k), NO_BLOCK, Check.block(paths, 5, 4, 0, false));
            CHECK.same("none", 0, paths.count(2));
        }
        DrawnPaths one = Check.started("1@");
        one.fast(1);
        CHECK.same("one sign", "1 1 0 0 0", Check.block(one, 0, 0, 0, false));
    }

    private static void coversItsSigns() {
        DrawnPaths paths = Check.started("123@");
        for (int k = 0; k < 3; k++) {
            paths.fast(1);
            for (int x = 0; x < 12; x++) {
                int want = x > 2 ? 0 : Math.min(x, k) + 1;
                CHECK.same(k + " cover " + x, want, paths.covers(x, 0));
                CHECK.same("none covers row 1", 0, paths.covers(x, 1));
            }
        }
        DrawnPaths crossing = Check.started("  v", "^ <", "", "", "", "", "", "@");
        crossing.fast(1);
        CHECK.same("a place of two signs", 1, crossing.covers(0, 0));
        DrawnPaths twice = Check.started("\"");
        twice.fast(1);
        CHECK.same("a place quoted and not", 1, twice.covers(7, 0));
    }

    private static void coversOnePlace() {
        for (int place = 0; place < 96; place++) {
            int x = place % 12;
            int y = place / 12;
            DrawnPaths paths = Pose.at(x, y, 0);
            paths.put((x + 1) % 12, y, '@');
            paths.fast(1);
            for (int other = 0; other < 96; other++) {
                CHECK.same(place + " covers " + other, other == place ? 1 : 0, paths.covers(other % 12, other / 12));
            }
            paths.put((x + 1) % 12, y, 'n');
            CHECK.same("kept", 1, paths.count(2));
            paths.put(x, y, '6');
            CHECK.same("dropped", 0, paths.count(2));
        }
    }

    private static void passedOver() {
        DrawnPaths paths = Check.started("1#23@");
        paths.fast(1);
        int[] covers = {1, 1, 0, 1, 0};
        for (int x = 0; x < 5; x++) {
            CHECK.same("covers " + x, covers[x], paths.covers(x, 0));
        }
        paths.put(2, 0, '@');
        CHECK.same("it is not dropped", 0, paths.count(3));
        // Passed over to the east, done to the north later.
        DrawnPaths later = Check.started(" #  v", "  ^ <", "", "", "", "", "", "  @");
        later.fast(1);
        CHECK.same("passed over, then done", 1, later.covers(2, 0));
    }

    private static void actsAreDone() {
        DrawnPaths paths = Check.started("i?nbfw");
        CHECK.same("one act", DrawnPaths.RUNNING, paths.fast(1));
        CHECK.same("done", "1 0 0 0 [-1] 0", Check.pointer(paths, 0));
        CHECK.same("one step", 1, paths.count(1));
        CHECK.same("no blocks", 0, paths.count(2));
        DrawnPaths many = Check.started("iinnbb@");
        CHECK.same("to the end", DrawnPaths.ENDED, many.fast(1000));
        CHECK.same("seven steps", 7, many.count(1));
        CHECK.same("no blocks by acts", 0, many.count(2));
        CHECK.same("written", "-1 -1   ", Check.written(many));
        DrawnPaths few = Check.started("iinnbb@");
        CHECK.same("some of them", DrawnPaths.RUNNING, few.fast(3));
        CHECK.same("three steps", 3, few.count(1));
    }

    private static void madeOnce() {
        DrawnPaths paths = Check.started("12@");
        CHECK.same("none before", NO_BLOCK, Check.block(paths, 0, 0, 0, false));
        paths.fast(2);
        CHECK.same("one", 1, paths.count(2));
        for (int k = 0; k < 3; k++) {
            paths.start();
            paths.fast(2);
            CHECK.same("one still", 1, paths.count(2));
            CHECK.same("one covers", 1, paths.covers(0, 0));
            CHECK.same("done", "2 0 0 0 [2 1] 0", Check.pointer(paths, 0));
        }
        DrawnPaths slow = Check.started("12@");
        slow.step(2);
        CHECK.same("none by steps", 0, slow.count(2));
    }

    private static void thirtyBlocks() {
        DrawnPaths paths = Check.started("           v", "v          <", ">          v", "           <");
        for (int k = 1; k <= 29; k++) {
            paths.fast(1);
        }
        CHECK.same("29", 29, paths.count(2));
        paths.fast(1);
        CHECK.same("30", 30, paths.count(2));
        CHECK.same("the 30th", 20, paths.block(5, 2, 0, false, 0));
        paths.fast(1);
        CHECK.same("30 still", 30, paths.count(2));
        CHECK.same("no 31st", NO_BLOCK, Check.block(paths, 6, 2, 0, false));
        CHECK.same("its sign is done", "7 2 0 0 [] 0", Check.pointer(paths, 0));
        paths.fast(500);
        CHECK.same("30 for good", 30, paths.count(2));
        CHECK.same("steps", 531, paths.count(1));
        CHECK.same("none dropped", 0, paths.count(3));
    }

    private static void roomAgain() {
        DrawnPaths paths = winding(33);
        for (int k = 1; k <= 30; k++) {
            paths.fast(1);
        }
        CHECK.same("30", 30, paths.count(2));
        // The block of 0, 0 has 32 signs, so 0, 0 is covered by it alone.
        paths.put(0, 0, '1');
        CHECK.same("29", 29, paths.count(2));
        paths.fast(3);
        CHECK.same("30 again", 30, paths.count(2));
        CHECK.same("the new one", "3 9 2 0 0", Check.block(paths, 6, 2, 0, false));
        CHECK.same("done as a whole", "9 2 0 0 [] 0", Check.pointer(paths, 0));
        paths.start();
        paths.fast(1);
        CHECK.same("none for 0, 0", NO_BLOCK, Check.block(paths, 0, 0, 0, false));
    }

    private static void madeAllTheSame() {
        DrawnPaths few = Check.started("12345@");
        few.fast(1);
        CHECK.same("more signs than steps", "5 5 0 0 0", Check.block(few, 0, 0, 0, false));
        DrawnPaths full = Pose.at(0, 4, 0, Pose.numbers(24));
        full.put(5, 4, '@');
        full.fast(1);
        CHECK.same("too many numbers", "5 5 4 0 0", Check.block(full, 0, 4, 0, false));
        DrawnPaths stopping = Pose.at(0, 4, 0, Pose.numbers(24));
        stopping.put(0, 4, '8');
        stopping.put(5, 4, '@');
        CHECK.same("one that stops", 2, stopping.fast(9));
        CHECK.same("is made", "5 5 4 0 0", Check.block(stopping, 0, 4, 0, false));
        CHECK.same("as it was", "0 4 0", Pose.place(stopping, 0));
        DrawnPaths large = winding(32);
        large.fast(1);
        CHECK.same("one of 32", 32, large.block(0, 0, 0, false, 0));
    }

    private static void stepsLeft() {
        for (int size = 2; size <= 9; size++) {
            for (int steps = 1; steps <= size + 1; steps++) {
                DrawnPaths paths = Pose.at(0, 4, 0);
                paths.put(size, 4, 'x');
                paths.put(size + 1, 4, 'b');
                paths.fast(steps);
                int whole = size + 1;
                // One sign at a time, each of them with a block of its own, if the whole is too long.
                CHECK.same(steps + " of " + whole, steps >= whole ? 1 : steps, paths.count(2));
                CHECK.same("where", steps + " 4 0", Pose.place(paths, 0));
            }
        }
    }

    private static void stepsLeftLater() {
        DrawnPaths exact = Check.started("123n45@");
        exact.fast(6);
        CHECK.same("three, an act, two", 2, exact.count(2));
        CHECK.same("six steps", 6, exact.count(1));
        DrawnPaths fewer = Check.started("123n45@");
        fewer.fast(5);
        CHECK.same("three, an act, one of two", 2, fewer.count(2));
        CHECK.same("the two", "2 6 0 0 0", Check.block(fewer, 4, 0, 0, false));
        CHECK.same("one is done", "5 0 0 0 [4 2 1] 0", Check.pointer(fewer, 0));
        fewer.fast(1);
        CHECK.same("the other makes one", 3, fewer.count(2));
    }

    /** How many blocks there are when as many signs as the first has were done, all of them blanks. */
    private static void blocksMade(int want, int size, int numbers) {
        DrawnPaths paths = Pose.at(0, 4, 0, Pose.numbers(numbers));
        paths.put(size, 4, '@');
        CHECK.same("state", DrawnPaths.RUNNING, paths.fast(size));
        CHECK.same("size", size, paths.block(0, 4, 0, false, 0));
        CHECK.same(size + " signs, " + numbers + " numbers", want, paths.count(2));
        CHECK.same("where", size + " 4 0", Pose.place(paths, 0));
    }

    private static void belowTwentyFour() {
        for (int size = 3; size <= 11; size++) {
            blocksMade(1, size, 22 - size);
            blocksMade(1, size, 23 - size);
            blocksMade(2, size, 24 - size);
            blocksMade(3, size, 25 - size);
        }
    }

    private static void belowTwentyFourAlone() {
        for (int size = 22; size <= 26; size++) {
            DrawnPaths paths = winding(size);
            CHECK.same("state", DrawnPaths.RUNNING, paths.fast(size));
            CHECK.same("an empty stack, " + size + " signs", Math.max(1, size - 22), paths.count(2));
        }
        // Each sign pushes: it is the stack before the block that counts.
        for (int numbers = 13; numbers <= 14; numbers++) {
            DrawnPaths pushing = Pose.at(0, 4, 0, Pose.numbers(numbers));
            Check.draw(pushing, 4, "1234567891@");
            CHECK.same("state", DrawnPaths.RUNNING, pushing.fast(10));
            CHECK.same("ten pushes on " + numbers, numbers == 13 ? 1 : 10, pushing.count(2));
            CHECK.same("how many then", numbers + 10, pushing.pointer(0, 4));
        }
    }

    private static void otherwiseOne() {
        DrawnPaths paths = Check.started("12345@");
        paths.fast(3);
        CHECK.same("one each", 3, paths.count(2));
        CHECK.same("of five", 5, paths.block(0, 0, 0, false, 0));
        CHECK.same("of four", 4, paths.block(1, 0, 0, false, 0));
        CHECK.same("of three", 3, paths.block(2, 0, 0, false, 0));
        CHECK.same("three are done", "3 0 0 0 [3 2 1] 0", Check.pointer(paths, 0));
        CHECK.same("three steps", 3, paths.count(1));
        paths.start();
        paths.fast(4);
        CHECK.same("one of five, then three of four that are left, one each", 4, paths.count(2));
        paths.start();
        paths.fast(1);
        CHECK.same("one of a block that was there", "1 0 0 0 [1] 0", Check.pointer(paths, 0));
    }

    private static void morePointers() {
        DrawnPaths paths = Pose.several(2);
        CHECK.same("fast", DrawnPaths.RUNNING, paths.fast(5));
        CHECK.same("no blocks", 0, paths.count(2));
        CHECK.same("the first", "1 6 1", Pose.place(paths, 0));
        CHECK.same("the second", "0 1 3", Pose.place(paths, 1));
        // A block that is there is not done as a whole while two live.
        DrawnPaths kept = Check.started("12345@");
        kept.fast(5);
        kept.put(5, 0, 'f');
        kept.step(1);
        CHECK.same("two", 2, kept.count(0));
        kept.put(5, 7, '<');
        CHECK.same("each step by itself", DrawnPaths.RUNNING, kept.fast(11));
        CHECK.same("the first", "5 0 0 0 [5 4 3 2 1 4 3 2 1] 0", Check.pointer(kept, 0));
        CHECK.same("the second", "6 7 2 0 [5] 0", Check.pointer(kept, 1));
        CHECK.same("no more blocks", 1, kept.count(2));
        CHECK.same("steps", 17, kept.count(1));
    }

    private static void oneAgain() {
        // The second one ends in the third step; from then on the first makes blocks.
        DrawnPaths paths = Check.started("f", "", "", "", "", "", "@");
        CHECK.same("fast", DrawnPaths.RUNNING, paths.fast(5));
        CHECK.same("one lives", 1, paths.count(0));
        CHECK.same("blocks of the two steps left", 2, paths.count(2));
        CHECK.same("from 3, 0 on", "9 0 0 0 0", Check.block(paths, 3, 0, 0, false));
        CHECK.same("from 4, 0 on", "8 0 0 0 0", Check.block(paths, 4, 0, 0, false));
        CHECK.same("five steps", 5, paths.count(1));
        // One alone makes a block, does it, then forks: no more blocks.
        DrawnPaths forking = Check.started("12f34");
        forking.fast(6);
        CHECK.same("two live", 2, forking.count(0));
        CHECK.same("one block", 1, forking.count(2));
    }

    private static void droppedByPut() {
        for (int x = 0; x < 5; x++) {
            DrawnPaths paths = Check.started("12345@");
            for (int k = 0; k < 5; k++) {
                paths.fast(1);
            }
            CHECK.same("five", 5, paths.count(2));
            paths.put(x, 0, paths.sign(x, 0));
            CHECK.same("the same sign drops none", 5, paths.count(2));
            CHECK.same("those that cover " + x, x + 1, paths.covers(x, 0));
            paths.put(x, 0, 'q');
            CHECK.same("are dropped", x + 1, paths.count(3));
            CHECK.same("others stay", 4 - x, paths.count(2));
            CHECK.same("none covers it", 0, paths.covers(x, 0));
            for (int begin = 0; begin < 5; begin++) {
                int want = begin <= x ? DrawnPaths.NONE : 5 - begin;
                CHECK.same("that of " + begin, want, paths.block(begin, 0, 0, false, 0));
            }
        }
    }

    private static void droppedByLay() {
        DrawnPaths paths = Check.started("12345@");
        paths.fast(1);
        paths.fast(1);
        Check.draw(paths, 0, "12345@");
        CHECK.same("the same row", 2, paths.count(2));
        Check.draw(paths, 0, "12345nnnnnnn");
        CHECK.same("other signs where none covers", 2, paths.count(2));
        Check.draw(paths, 1, "12345");
        CHECK.same("another row", 2, paths.count(2));
        Check.draw(paths, 0, "62345");
        CHECK.same("one that covers 0, 0", 1, paths.count(3));
        Check.draw(paths, 0, "6234");
        CHECK.same("a blank behind the text", 2, paths.count(3));
        CHECK.same("none left", 0, paths.count(2));
    }

    private static void droppedByRuns() {
        // Writes a 7 on 2, 0, which the block before it covers.
        DrawnPaths slow = Check.started("\"7\"20w@");
        slow.fast(5);
        slow.step(1);
        CHECK.same("by a step", 1, slow.count(3));
        CHECK.same("none left", 0, slow.count(2));
        DrawnPaths fast = Check.started("\"7\"20w@");
        fast.fast(6);
        CHECK.same("by a fast one", 1, fast.count(3));
        CHECK.same("none left", 0, fast.count(2));
        DrawnPaths same = Check.started("\"7\"10w@");
        same.fast(6);
        CHECK.same("the same sign", 0, same.count(3));
        CHECK.same("one left", 1, same.count(2));
    }

    private static void droppedBySecondOnes() {
        DrawnPaths paths = Pose.at(0, 5, 0);
        paths.put(3, 5, '@');
        paths.fast(3);
        Pose.act(paths, 'f');
        for (long number : new long[] {'q', 1, 5}) {
            paths.input(number);
            Pose.act(paths, 1, 'i');
        }
        Pose.under(paths, 1, 'w');
        CHECK.same("one block", 1, paths.count(2));
        paths.fast(1);
        CHECK.same("written", 'q', paths.sign(1, 5));
        CHECK.same("dropped", 1, paths.count(3));
        CHECK.same("none left", 0, paths.count(2));
    }

    private static void keptAsTheyWere() {
        DrawnPaths paths = Check.started("12@4");
        paths.fast(2);
        paths.put(2, 0, '3');
        CHECK.same("its act is none now", "2 2 0 0 0", Check.block(paths, 0, 0, 0, false));
        paths.put(5, 0, '@');
        paths.start();
        paths.fast(5);
        CHECK.same("it is done as it is, another is made", 2, paths.count(2));
        CHECK.same("the other", "3 5 0 0 0", Check.block(paths, 2, 0, 0, false));
        CHECK.same("where", "5 0 0 0 [4 3 2 1] 0", Check.pointer(paths, 0));
        paths.put(1, 0, '9');
        paths.start();
        paths.fast(1);
        CHECK.same("one that was dropped is made anew", "5 5 0 0 0", Check.block(paths, 0, 0, 0, false));
    }

    private static void madeAnew() {
        // Over a column at first, then, when it was dropped, over 0, 0 alone.
        DrawnPaths paths = Check.started("v@");
        paths.fast(1);
        paths.fast(1);
        CHECK.same("two", 2, paths.covers(0, 6));
        paths.put(0, 0, '1');
        CHECK.same("both are dropped", 2, paths.count(3));
        paths.start();
        paths.fast(1);
        CHECK.same("made anew", "1 1 0 0 0", Check.block(paths, 0, 0, 0, false));
        CHECK.same("over 0, 0", 1, paths.covers(0, 0));
        for (int y = 1; y < 8; y++) {
            CHECK.same("no longer over row " + y, 0, paths.covers(0, y));
        }
        // Of three, the one in the midst is dropped; the others stay as they were, beside a new one.
        DrawnPaths three = Check.started("12C", "3v@", " 4", " @");
        three.fast(2);
        three.put(2, 0, 'v');
        three.put(2, 1, '<');
        three.fast(1);
        CHECK.same("the first", "2 2 0 0 0", Check.block(three, 0, 0, 0, false));
        CHECK.same("the second", "4 1 3 1 0", Check.block(three, 2, 0, 0, false));
        three.fast(2);
        three.put(2, 1, '^');
        CHECK.same("all over 2, 1 are dropped", 2, three.count(3));
        three.fast(1);
        CHECK.same("the first stays", "2 2 0 0 0", Check.block(three, 0, 0, 0, false));
        CHECK.same("one more is made", "1 1 3 1 0", Check.block(three, 1, 2, 1, false));
        CHECK.same("and one stays", "2 1 3 1 0", Check.block(three, 1, 1, 2, false));
        CHECK.same("three", 3, three.count(2));
        three.put(1, 3, '5');
        three.fast(1);
        CHECK.same("a fourth", "8 1 3 1 0", Check.block(three, 1, 3, 1, false));
        CHECK.same("that one stays still", "2 1 3 1 0", Check.block(three, 1, 1, 2, false));
        CHECK.same("four", 4, three.count(2));
    }
}

/** Promises 1 to 8, sentence by sentence: a new object, put, sign, type, lay, input, clear, start. */
public final class PromisesDrawTest {
    private static final Check CHECK = new Check("PromisesDrawTest");

    public static void main(String[] args) {
        newObjects();
        CHECK.sentence("A place gets a sign: what it had.", PromisesDrawTest::putsSigns);
        CHECK.sentence("The sign on a place.", PromisesDrawTest::looksAtSigns);
        CHECK.sentence("Appends a character to the text: true;", PromisesDrawTest::types);
        CHECK.sentence("false when it is none of the signs,", PromisesDrawTest::typesNone);
        CHECK.sentence("or the text has 12.", PromisesDrawTest::fullText);
        CHECK.sentence("The text, which is empty then,", PromisesDrawTest::emptyThen);
        CHECK.sentence("becomes row y, with blanks behind:", PromisesDrawTest::becomesRow);
        CHECK.sentence("how many characters it had.", PromisesDrawTest::howManyLaid);
        CHECK.sentence("A number more for the input: how many there are.", PromisesDrawTest::moreInput);
        clears();
        starts();
        CHECK.end();
    }

    private static void newObjects() {
        CHECK.sentence("All blank;", () -> {
            DrawnPaths paths = new DrawnPaths();
            for (int place = 0; place < 96; place++) {
                CHECK.same("sign", ' ', paths.sign(place % 12, place / 12));
            }
        });
        CHECK.sentence("no pointers,", () -> {
            DrawnPaths paths = new DrawnPaths();
            CHECK.same("none lives", 0, paths.count(0));
            CHECK.same("state", 1, paths.count(5));
            CHECK.noPlace("the first", () -> paths.pointer(0, 0));
            CHECK.same("no steps", 1, paths.step(1000));
            CHECK.same("none done", 0, paths.count(1));
        });
        CHECK.sentence("no input,", () -> {
            DrawnPaths paths = new DrawnPaths();
            CHECK.same("none to read", 0, paths.count(4));
            CHECK.same("the first", 1, paths.input(0));
        });
        CHECK.sentence("no blocks;", () -> {
            DrawnPaths paths = new DrawnPaths();
            CHECK.same("none", 0, paths.count(2));
            CHECK.same("none dropped", 0, paths.count(3));
            for (int place = 0; place < 96; place++) {
                CHECK.same("covers", 0, paths.covers(place % 12, place / 12));
                CHECK.same("block", -1, paths.block(place % 12, place / 12, place % 4, false, 0));
                CHECK.same("block", -1, paths.block(place % 12, place / 12, place % 4, true, 4));
            }
        });
        CHECK.sentence("the text and the page are empty.", () -> {
            DrawnPaths paths = new DrawnPaths();
            CHECK.same("the page", 0, paths.length());
            CHECK.same("its first character", ' ', paths.charAt(0));
            CHECK.same("the text", 0, paths.lay(0));
            CHECK.same("the output", 0, paths.output());
        });
    }

    private static void putsSigns() {
        DrawnPaths paths = new DrawnPaths();
        CHECK.same("a blank", ' ', paths.put(11, 7, 'a'));
        CHECK.same("the one before", 'a', paths.put(11, 7, 'b'));
        CHECK.same("the same again", 'b', paths.put(11, 7, 'b'));
        CHECK.same("a blank put", 'b', paths.put(11, 7, ' '));
        CHECK.same("a blank had", ' ', paths.put(11, 7, '~'));
        CHECK.same("it is there", '~', paths.sign(11, 7));
        CHECK.same("not beside it", ' ', paths.sign(10, 7));
        CHECK.same("nor above", ' ', paths.sign(11, 6));
        CHECK.same("nor behind", ' ', paths.sign(0, 0));
        DrawnPaths running = Check.started("\"a\"00w@");
        running.step(6);
        CHECK.same("what w wrote", 'a', running.put(0, 0, 'c'));
        Check.draw(running, 0, "z");
        CHECK.same("what was laid", 'z', running.put(0, 0, 'c'));
    }

    private static void looksAtSigns() {
        DrawnPaths paths = new DrawnPaths();
        paths.put(3, 5, 'a');
        paths.put(5, 3, 'b');
        CHECK.same("put there", 'a', paths.sign(3, 5));
        CHECK.same("put the other way round", 'b', paths.sign(5, 3));
        CHECK.same("again", 'a', paths.sign(3, 5));
    }

    private static void types() {
        for (int size = 0; size <= 12; size++) {
            DrawnPaths paths = new DrawnPaths();
            for (int k = 0; k < size; k++) {
                CHECK.same("type", true, paths.type((char) ('a' + k)));
            }
            CHECK.same("how many", size, paths.lay(2));
            for (int x = 0; x < 12; x++) {
                CHECK.same("in order", x < size ? 'a' + x : ' ', paths.sign(x, 2));
            }
        }
        DrawnPaths ends = new DrawnPaths();
        CHECK.same("the first sign", true, ends.type(' '));
        CHECK.same("the last sign", true, ends.type('~'));
        CHECK.same("two", 2, ends.lay(0));
        CHECK.same("the second", '~', ends.sign(1, 0));
    }

    private static void typesNone() {
        DrawnPaths paths = new DrawnPaths();
        paths.type('a');
        for (char c = 0; c < 256; c++) {
            if (c < 32 || c > 126) {
                CHECK.same("type of " + (int) c, false, paths.type(c));
            }
        }
        CHECK.same("far away", false, paths.type((char) (256 + 'a')));
        CHECK.same("the last character", false, paths.type((char) 65535));
        paths.type('b');
        CHECK.same("none was appended", 2, paths.lay(0));
        CHECK.same("side by side", 'b', paths.sign(1, 0));
    }

    private static void fullText() {
        DrawnPaths paths = new DrawnPaths();
        for (int k = 0; k < 12; k++) {
            CHECK.same("type " + k, true, paths.type('a'));
        }
        CHECK.same("a thirteenth", false, paths.type('b'));
        CHECK.same("a fourteenth", false, paths.type('b'));
        CHECK.same("none of the signs", false, paths.type((char) 7));
        CHECK.same("twelve", 12, paths.lay(0));
        CHECK.same("the last", 'a', paths.sign(11, 0));
        CHECK.same("not on the next row", ' ', paths.sign(0, 1));
        CHECK.same("room again", true, paths.type('c'));
    }

    private static void emptyThen() {
        DrawnPaths paths = new DrawnPaths();
        paths.type('a');
        paths.type('b');
        CHECK.same("two", 2, paths.lay(0));
        CHECK.same("none", 0, paths.lay(1));
        CHECK.same("nothing laid", ' ', paths.sign(0, 1));
        paths.type('c');
        CHECK.same("one", 1, paths.lay(2));
        CHECK.same("the new one", 'c', paths.sign(0, 2));
        CHECK.same("none behind it", ' ', paths.sign(1, 2));
    }

    private static void becomesRow() {
        for (int y = 0; y < 8; y++) {
            DrawnPaths paths = new DrawnPaths();
            for (int place = 0; place < 96; place++) {
                paths.put(place % 12, place / 12, '#');
            }
            Check.draw(paths, y, "abc");
            for (int place = 0; place < 96; place++) {
                int x = place % 12;
                char want = place / 12 != y ? '#' : x < 3 ? (char) ('a' + x) : ' ';
                CHECK.same("row " + y + ", place " + place, want, paths.sign(x, place / 12));
            }
            Check.draw(paths, y, "");
            CHECK.same("an empty text", ' ', paths.sign(0, y));
            Check.draw(paths, y, "abcdefghijkl");
            CHECK.same("a full one", 'l', paths.sign(11, y));
        }
    }

    private static void howManyLaid() {
        for (int size = 0; size <= 13; size++) {
            DrawnPaths paths = new DrawnPaths();
            for (int k = 0; k < size; k++) {
                paths.type(' ');
            }
            CHECK.same("blanks count", Math.min(size, 12), paths.lay(7));
        }
    }

    private static void moreInput() {
        DrawnPaths paths = Check.started("i");
        CHECK.same("one", 1, paths.input(Long.MIN_VALUE));
        paths.step(1);
        CHECK.same("read ones are there, too", 2, paths.input(Long.MAX_VALUE));
        paths.start();
        CHECK.same("started again", 3, paths.input(0));
        CHECK.same("three to read", 3, paths.count(4));
        for (int k = 4; k <= 40; k++) {
            CHECK.same("more", k, paths.input(k));
        }
    }

    /** Something of all that clear takes away. */
    private static DrawnPaths toClear() {
        DrawnPaths paths = Check.started("12+n3  f i", " 56 78", "v");
        paths.input(11);
        paths.input(12);
        paths.fast(7);
        paths.put(0, 0, '4');
        paths.fast(5);
        CHECK.same("pointers", 2, paths.count(0));
        CHECK.same("steps", 12, paths.count(1));
        CHECK.same("blocks", 1, paths.count(2));
        CHECK.same("drops", 1, paths.count(3));
        CHECK.same("input", 1, paths.count(4));
        return paths;
    }

    private static void clears() {
        CHECK.sentence("All signs blank,", () -> {
            DrawnPaths paths = new DrawnPaths();
            for (int place = 0; place < 96; place++) {
                paths.put(place % 12, place / 12, 'q');
            }
            paths.clear();
            for (int place = 0; place < 96; place++) {
                CHECK.same("sign", ' ', paths.sign(place % 12, place / 12));
            }
            CHECK.same("none lost", 0, paths.count(6));
        });
        CHECK.sentence("all pointers, input, output", () -> {
            DrawnPaths paths = toClear();
            paths.clear();
            CHECK.same("no pointers", 0, paths.count(0));
            CHECK.noPlace("the first", () -> paths.pointer(0, 0));
            CHECK.same("state", 1, paths.count(5));
            CHECK.same("no input", 0, paths.count(4));
            CHECK.same("no output", 0, paths.output());
            CHECK.same("the first of the input", 1, paths.input(9));
            paths.put(0, 0, 'i');
            paths.start();
            paths.step(1);
            CHECK.same("the new first number", 9, paths.value(0, 0));
        });
        CHECK.sentence("and blocks gone (not as DROPPED),", () -> {
            DrawnPaths paths = Check.started("12@");
            paths.fast(2);
            paths.clear();
            CHECK.same("no blocks", 0, paths.count(2));
            CHECK.same("none dropped", 0, paths.count(3));
            CHECK.same("none covers", 0, paths.covers(0, 0));
            CHECK.same("none begins there", -1, paths.block(0, 0, 0, false, 0));
            paths.put(0, 0, 'a');
            CHECK.same("none to drop", 0, paths.count(3));
            paths.start();
            paths.fast(1);
            CHECK.same("made anew", 12, paths.block(0, 0, 0, false, 0));
        });
        CHECK.sentence("and blocks gone (not as DROPPED),", PromisesDrawTest::thirtyGone);
        CHECK.sentence("steps and drops 0.", () -> {
            DrawnPaths paths = toClear();
            paths.clear();
            CHECK.same("steps", 0, paths.count(1));
            CHECK.same("drops", 0, paths.count(3));
        });
        CHECK.sentence("All signs blank,", () -> {
            DrawnPaths paths = new DrawnPaths();
            paths.clear();
            paths.clear();
            CHECK.same("an object without anything", 1, paths.count(5));
        });
    }

    private static void thirtyGone() {
        DrawnPaths paths = Check.started("           v", "v          <", ">          v", "           <");
        for (int k = 0; k < 30; k++) {
            paths.fast(1);
        }
        CHECK.same("30", 30, paths.count(2));
        paths.clear();
        Check.draw(paths, 0, "           v");
        Check.draw(paths, 1, "v          <");
        Check.draw(paths, 2, ">          v");
        Check.draw(paths, 3, "           <");
        CHECK.same("none dropped", 0, paths.count(3));
        paths.start();
        for (int k = 1; k <= 30; k++) {
            paths.fast(1);
            CHECK.same("again", k, paths.count(2));
        }
    }

    private static void starts() {
        CHECK.sentence("A run begins: one pointer on 0, 0, directed east, its stack empty;", () -> {
            for (int living = 1; living <= 4; living++) {
                DrawnPaths paths = Pose.several(living);
                Pose.push(paths, 7, 8, 3, 3);
                Pose.act(paths, 'C');
                Pose.act(paths, '"');
                paths.start();
                CHECK.same("one", 1, paths.count(0));
                CHECK.same("it", "0 0 0 0 [] 0", Check.pointer(paths, 0));
                CHECK.same("state", 0, paths.count(5));
            }
            DrawnPaths ended = Check.started("v", "@");
            ended.step(5);
            ended.start();
            CHECK.same("one behind an end", "0 0 0 0 [] 0", Check.pointer(ended, 0));
            CHECK.same("it runs", 0, ended.step(1));
            DrawnPaths stopped = Check.started("c");
            CHECK.same("stopped", 2, stopped.step(1000));
            stopped.start();
            CHECK.same("one behind a stop", "0 0 0 0 [] 0", Check.pointer(stopped, 0));
            CHECK.same("it runs", 0, stopped.step(1));
        });
        CHECK.sentence("output empty,", () -> {
            DrawnPaths paths = Check.started("7nn@");
            paths.step(4);
            CHECK.same("written", 4, paths.output());
            paths.start();
            CHECK.same("empty", 0, paths.output());
            paths.step(2);
            CHECK.same("anew", "7 ", Check.written(paths));
            DrawnPaths full = Check.started("b");
            CHECK.same("full", 3, full.step(1000));
            full.start();
            CHECK.same("room again", 0, full.step(79 * 12 + 1));
            CHECK.same("80", 80, full.output());
        });
        CHECK.sentence("the input's first number the next;", () -> {
            DrawnPaths paths = Check.started("iii");
            paths.input(11);
            paths.input(12);
            paths.step(3);
            CHECK.same("all read", 0, paths.count(4));
            paths.start();
            CHECK.same("none read", 2, paths.count(4));
            paths.step(2);
            CHECK.same("as before", "2 0 0 0 [12 11] 0", Check.pointer(paths, 0));
        });
        CHECK.sentence("no steps.", () -> {
            DrawnPaths paths = Check.started("1x");
            paths.step(10);
            paths.fast(10);
            CHECK.same("twenty", 20, paths.count(1));
            paths.start();
            CHECK.same("none", 0, paths.count(1));
        });
        CHECK.sentence("Blocks stay.", () -> {
            DrawnPaths paths = Check.started("12@", "3@");
            paths.fast(2);
            paths.start();
            CHECK.same("one", 1, paths.count(2));
            CHECK.same("as it was", "2 2 0 0 0", Check.block(paths, 0, 0, 0, false));
            CHECK.same("it covers", 1, paths.covers(1, 0));
            paths.put(0, 0, 'v');
            CHECK.same("dropped", 1, paths.count(3));
            paths.start();
            CHECK.same("the drops are not steps", 1, paths.count(3));
        });
    }
}

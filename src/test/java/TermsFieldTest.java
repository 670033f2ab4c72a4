/** "Terms", the field: its places, its signs, its joined edges, its directions. */
public final class TermsFieldTest {
    private static final Check CHECK = new Check("TermsFieldTest");

    public static void main(String[] args) {
        CHECK.sentence("The FIELD has 12 columns x and 8 rows y, counted from 0,", TermsFieldTest::columnsAndRows);
        CHECK.sentence("of SIGNS, characters 32 .. 126,", TermsFieldTest::signs);
        CHECK.sentence("at first blanks;", TermsFieldTest::atFirst);
        joinedEdges();
        CHECK.sentence("DIRECTIONS: 0 east (x grows), 1 south (y grows), 2 west, 3 north;",
                TermsFieldTest::directions);
        CHECK.sentence("RIGHT is the next one (0 behind 3),", TermsFieldTest::right);
        CHECK.sentence("LEFT the one before.", TermsFieldTest::left);
        CHECK.end();
    }

    private static void joinedEdges() {
        String words = "its edges are joined, behind the last column or row comes the first.";
        CHECK.sentence(words, TermsFieldTest::movesOverEdges);
        CHECK.sentence(words, TermsFieldTest::passesOverEdges);
        CHECK.sentence(words, TermsFieldTest::turnsOverEdges);
        CHECK.sentence(words, TermsFieldTest::forksOverEdges);
        CHECK.sentence(words, TermsFieldTest::returnsOverEdges);
        CHECK.sentence(words, TermsFieldTest::blocksOverEdges);
        CHECK.sentence(words, TermsFieldTest::lostOverEdges);
    }

    private static void columnsAndRows() {
        DrawnPaths paths = new DrawnPaths();
        for (int place = 0; place < 96; place++) {
            paths.put(place % 12, place / 12, (char) (126 - place % 95));
        }
        for (int y = 0; y < 8; y++) {
            for (int x = 0; x < 12; x++) {
                CHECK.same("sign on " + x + ", " + y, 126 - (y * 12 + x) % 95, paths.sign(x, y));
            }
        }
        CHECK.noPlace("a column before the first", () -> paths.sign(-1, 3));
        CHECK.noPlace("a thirteenth column", () -> paths.sign(12, 3));
        CHECK.noPlace("a row before the first", () -> paths.sign(3, -1));
        CHECK.noPlace("a ninth row", () -> paths.sign(3, 8));
    }

    private static void signs() {
        DrawnPaths paths = new DrawnPaths();
        char before = ' ';
        for (char c = 0; c < 300; c++) {
            if (c >= 32 && c <= 126) {
                CHECK.same("put of " + (int) c, before, paths.put(4, 4, c));
                before = c;
            } else {
                char none = c;
                CHECK.noArgument("put of " + (int) c, () -> paths.put(4, 4, none));
            }
        }
        CHECK.same("the last one", '~', paths.sign(4, 4));
        char[] far = {32768, 65535, 256 + 65, 65536 - 128 + 65};
        for (char c : far) {
            CHECK.noArgument("put of " + (int) c, () -> paths.put(4, 4, c));
        }
    }

    private static void atFirst() {
        DrawnPaths paths = new DrawnPaths();
        for (int place = 0; place < 96; place++) {
            CHECK.same("sign", ' ', paths.sign(place % 12, place / 12));
        }
    }

    /** The pointer posed so does a sign: where it is then, and its direction. */
    private static void goes(String what, int x, int y, int direction, char sign, String want, long... numbers) {
        DrawnPaths paths = Pose.at(x, y, direction, numbers);
        CHECK.same(what + ", from", x + " " + y + " " + direction, Pose.place(paths, 0));
        CHECK.same(what + ", state", DrawnPaths.RUNNING, Pose.act(paths, sign));
        CHECK.same(what + " from " + x + ", " + y, want, Pose.place(paths, 0));
    }

    private static void movesOverEdges() {
        for (int y = 0; y < 8; y++) {
            goes("east", 11, y, 0, ' ', "0 " + y + " 0");
            goes("west", 0, y, 2, ' ', "11 " + y + " 2");
        }
        for (int x = 0; x < 12; x++) {
            goes("south", x, 7, 1, ' ', x + " 0 1");
            goes("north", x, 0, 3, ' ', x + " 7 3");
        }
    }

    private static void passesOverEdges() {
        goes("# east to the edge", 9, 3, 0, '#', "11 3 0");
        goes("# east", 10, 3, 0, '#', "0 3 0");
        goes("# east", 11, 3, 0, '#', "1 3 0");
        goes("# south to the edge", 5, 5, 1, '#', "5 7 1");
        goes("# south", 5, 6, 1, '#', "5 0 1");
        goes("# south", 5, 7, 1, '#', "5 1 1");
        goes("# west to the edge", 2, 3, 2, '#', "0 3 2");
        goes("# west", 1, 3, 2, '#', "11 3 2");
        goes("# west", 0, 3, 2, '#', "10 3 2");
        goes("# north to the edge", 5, 2, 3, '#', "5 0 3");
        goes("# north", 5, 1, 3, '#', "5 7 3");
        goes("# north", 5, 0, 3, '#', "5 6 3");
    }

    private static void turnsOverEdges() {
        goes("v", 6, 7, 0, 'v', "6 0 1");
        goes("^", 6, 0, 0, '^', "6 7 3");
        goes("<", 0, 2, 1, '<', "11 2 2");
        goes(">", 11, 2, 1, '>', "0 2 0");
        goes("/", 6, 0, 0, '/', "6 7 3");
        goes("\\", 6, 7, 0, '\\', "6 0 1");
        goes("? right", 6, 7, 0, '?', "6 0 1", 1);
        goes("? left", 6, 0, 0, '?', "6 7 3", -1);
        goes("? right", 0, 2, 1, '?', "11 2 2", 1);
        goes("? left", 11, 2, 1, '?', "0 2 0", -1);
        goes("\"", 11, 2, 0, '"', "0 2 0");
    }

    /** Where the one is that begins by f. */
    private static void begins(int x, int y, int direction, String want) {
        DrawnPaths paths = Pose.at(x, y, direction);
        Pose.act(paths, 'f');
        CHECK.same("f on " + x + ", " + y, want, Pose.place(paths, 1));
    }

    private static void forksOverEdges() {
        begins(4, 0, 0, "4 7 3");
        begins(11, 4, 1, "0 4 0");
        begins(4, 7, 2, "4 0 1");
        begins(0, 4, 3, "11 4 2");
    }

    /** The place to which C would move lies over the edge. */
    private static void comesBack(int x, int y, int direction, String want) {
        DrawnPaths paths = Pose.at(x, y, direction, 5, 5);
        Pose.act(paths, 'C');
        CHECK.same("called from " + x + ", " + y, "5 5 " + direction, Pose.place(paths, 0));
        Pose.act(paths, 'R');
        CHECK.same("back to " + x + ", " + y, want, Pose.place(paths, 0));
    }

    private static void returnsOverEdges() {
        comesBack(11, 2, 0, "0 2 0");
        comesBack(2, 7, 1, "2 0 1");
        comesBack(0, 2, 2, "11 2 2");
        comesBack(2, 0, 3, "2 7 3");
    }

    private static void blocksOverEdges() {
        DrawnPaths paths = Pose.at(11, 3, 0);
        paths.put(1, 3, '@');
        paths.fast(2);
        CHECK.same("east", "2 1 3 0 0", Check.block(paths, 11, 3, 0, false));
        CHECK.same("over the first column", 1, paths.covers(0, 3));
        DrawnPaths south = Pose.at(6, 7, 1);
        south.put(6, 1, '@');
        south.fast(2);
        CHECK.same("south", "2 6 1 1 0", Check.block(south, 6, 7, 1, false));
        CHECK.same("over the first row", 1, south.covers(6, 0));
        DrawnPaths west = Pose.at(0, 3, 2);
        west.put(10, 3, '@');
        west.fast(2);
        CHECK.same("west", "2 10 3 2 0", Check.block(west, 0, 3, 2, false));
        CHECK.same("over the last column", 1, west.covers(11, 3));
        DrawnPaths north = Pose.at(6, 0, 3);
        north.put(6, 6, '@');
        north.fast(2);
        CHECK.same("north", "2 6 6 3 0", Check.block(north, 6, 0, 3, false));
        CHECK.same("over the last row", 1, north.covers(6, 7));
    }

    private static void lostOverEdges() {
        DrawnPaths west = Check.drawing("<a        @b");
        CHECK.same("b is come to from the east", false, west.lost(11, 0));
        CHECK.same("a is not", true, west.lost(1, 0));
        DrawnPaths north = Check.drawing("^", "a", "", "", "", "", "@", "b");
        CHECK.same("b is come to from the south", false, north.lost(0, 7));
        CHECK.same("a is not", true, north.lost(0, 1));
        DrawnPaths east = Check.drawing("v", ">       v", "b       >", "a");
        CHECK.same("b is come to from the west", false, east.lost(0, 2));
        CHECK.same("a is not", true, east.lost(0, 3));
        DrawnPaths south = Check.drawing("v ab", ">  v");
        CHECK.same("b is come to from the north", false, south.lost(3, 0));
        CHECK.same("a is not", true, south.lost(2, 0));
    }

    private static void directions() {
        String[] want = {"6 4 0", "5 5 1", "4 4 2", "5 3 3"};
        for (int direction = 0; direction < 4; direction++) {
            goes("direction " + direction, 5, 4, direction, ' ', want[direction]);
        }
    }

    private static void right() {
        String[] want = {"5 5 1", "4 4 2", "5 3 3", "6 4 0"};
        for (int direction = 0; direction < 4; direction++) {
            goes("right of " + direction, 5, 4, direction, '?', want[direction], 1);
        }
    }

    private static void left() {
        String[] want = {"5 3 3", "6 4 0", "5 5 1", "4 4 2"};
        for (int direction = 0; direction < 4; direction++) {
            goes("left of " + direction, 5, 4, direction, '?', want[direction], -1);
            begins(5, 4, direction, want[direction]);
        }
    }
}

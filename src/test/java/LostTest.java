/** Promise 16, and promise 13's count of the lost places. */
public final class LostTest {
    private static final Check CHECK = new Check("LostTest");

    public static void main(String[] args) {
        plainWays();
        acts();
        quotes();
        asTheFieldIs();
        CHECK.end();
    }

    /** The rows of a drawing, and beneath each place whether it is lost (!) or not. */
    private static void lost(String what, String[] rows, String[] want) {
        DrawnPaths paths = Check.drawing(rows);
        int due = 0;
        for (int y = 0; y < 8; y++) {
            for (int x = 0; x < 12; x++) {
                boolean is = y < want.length && x < want[y].length() && want[y].charAt(x) == '!';
                CHECK.same(what + " at " + x + ", " + y, is, paths.lost(x, y));
                due += is ? 1 : 0;
            }
        }
        CHECK.same(what + ": how many", due, paths.count(6));
        CHECK.same(what + ": nothing made", 0, paths.count(2));
        CHECK.same(what + ": nothing begun", 0, paths.count(0));
    }

    private static String[] rows(String... rows) {
        return rows;
    }

    private static void plainWays() {
        lost("a row", rows("abc", "x"), rows("", "!"));
        lost("a turn", rows("a v b", "c d e"), rows("    !", "!   !"));
        lost("passed over", rows("#ab", "x"), rows(" !", "!"));
        lost("from both sides", rows("#ab v", "    v", "    >  v", "", "", "", "", "   <"),
                rows(" !", "", "", "", "", "", "", "   !"));
        lost("mirrors", rows("a\\b/", " q", " /"), rows());
        lost("the first place alone", rows("@b"), rows(" !"));
    }

    private static void acts() {
        lost("behind @", rows("a@b"), rows("  !"));
        lost("behind R", rows("aRb", "c"), rows("  !", "!"));
        lost("at ?", rows("a?b@", " c", " @", "d", "", "", " @", " e"), rows("", "", "", "!"));
        lost("at f", rows("afb@", " c", "", "", "", "", " @", " e"), rows("", " !"));
        lost("at C", rows("42Cb@", "", "    cR"), rows("", "", "    !!"));
        lost("others go on", rows("aibnwcd@e"), rows("        !"));
    }

    private static void quotes() {
        lost("quoted", rows("\"@R?f>v<^#a\"", " x"), rows("", " !"));
        lost("quoted once round", rows("a\"v?", "  x", "  y"), rows("", "", ""));
        lost("not quoted behind", rows("\"v\"va", "   x", " z"), rows("    !", "", " !"));
        lost("a fork of the same place", rows("\"\"f@", "", "", "", "", "", "", "  f"), rows());
    }

    private static void asTheFieldIs() {
        DrawnPaths paths = Check.drawing("abcd");
        CHECK.same("none", 0, paths.count(6));
        paths.put(1, 0, '@');
        CHECK.same("two", 2, paths.count(6));
        CHECK.same("one of them", true, paths.lost(3, 0));
        paths.put(3, 0, ' ');
        CHECK.same("a blank is not", false, paths.lost(3, 0));
        CHECK.same("one", 1, paths.count(6));
        paths.start();
        paths.step(2);
        CHECK.same("also when ended", 1, paths.count(6));
        paths.put(1, 0, '?');
        CHECK.same("none again", 0, paths.count(6));
        DrawnPaths full = new DrawnPaths();
        for (int place = 0; place < 96; place++) {
            full.put(place % 12, place / 12, '?');
        }
        CHECK.same("all reached", 0, full.count(6));
        full.put(0, 0, '@');
        CHECK.same("all others lost", 95, full.count(6));
    }
}

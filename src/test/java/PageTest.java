/** Promises 17 to 19: output, length, charAt. */
public final class PageTest {
    private static final Check CHECK = new Check("PageTest");

    public static void main(String[] args) {
        DrawnPaths paths = Check.started("42n5n\"z\"b@");
        paths.step(5);
        CHECK.same("an empty page", 0, paths.length());
        CHECK.same("none on it", ' ', paths.charAt(0));
        CHECK.same("written", 4, paths.output());
        CHECK.same("as long", 4, paths.length());
        CHECK.same("the page", "2 5 ", Check.written(paths));
        paths.step(20);
        CHECK.same("the page stays", 4, paths.length());
        CHECK.same("none behind", ' ', paths.charAt(4));
        CHECK.same("longer", 5, paths.output());
        CHECK.same("the last", 'z', paths.charAt(4));
        int[] none = {-1, 5, 80, 81, Integer.MIN_VALUE, Integer.MAX_VALUE};
        for (int p : none) {
            CHECK.same("charAt(" + p + ")", ' ', paths.charAt(p));
        }
        paths.start();
        CHECK.same("the page stays at a start", 5, paths.length());
        CHECK.same("instead of what was there", 0, paths.output());
        CHECK.same("an empty page again", 0, paths.length());
        CHECK.same("none on it again", ' ', paths.charAt(4));
        fullPage();
        CHECK.end();
    }

    private static void fullPage() {
        DrawnPaths paths = Check.started("\"a\"b");
        CHECK.same("stopped", 3, paths.step(1000));
        CHECK.same("eighty", 80, paths.output());
        CHECK.same("the first", 'a', paths.charAt(0));
        CHECK.same("the last", 'a', paths.charAt(79));
        CHECK.same("none behind the last", ' ', paths.charAt(80));
    }
}

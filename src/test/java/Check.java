/** What the tests share: looking at answers, and making drawings from rows. */
final class Check {
    private final String name;
    private int looked;
    private int wrong;
    private String words = "";

    Check(String name) {
        this.name = name;
    }

    void same(String what, long want, long got) {
        looked++;
        if (want != got) {
            tell(what + " answered " + got + ", due is " + want);
        }
    }

    void same(String what, boolean want, boolean got) {
        same(what, want ? 1L : 0L, got ? 1L : 0L);
    }

    void same(String what, String want, String got) {
        looked++;
        if (!want.equals(got)) {
            tell(what + " answered '" + got + "', due is '" + want + "'");
        }
    }

    void raises(String what, Class<? extends RuntimeException> kind, Runnable call) {
        looked++;
        try {
            call.run();
        } catch (RuntimeException e) {
            if (e.getClass() != kind) {
                tell(what + " threw " + e.getClass().getSimpleName() + ", due is " + kind.getSimpleName());
            }
            return;
        }
        tell(what + " threw nothing, due is " + kind.getSimpleName());
    }

    void noPlace(String what, Runnable call) {
        raises(what, IndexOutOfBoundsException.class, call);
    }

    void noArgument(String what, Runnable call) {
        raises(what, IllegalArgumentException.class, call);
    }

    /** A test of one sentence of the document, which stands before each fault that it finds. */
    void sentence(String sentence, Runnable test) {
        int before = looked;
        words = " [" + sentence + "]";
        try {
            test.run();
        } catch (RuntimeException e) {
            tell("threw " + e.getClass().getSimpleName() + ", due is nothing");
        }
        if (looked == before) {
            tell("nothing was looked at");
        }
        words = "";
    }

    void tell(String fault) {
        wrong++;
        System.out.println(name + words + ": " + fault);
    }

    void end() {
        System.out.println(name + ": " + looked + " looked at, " + wrong + " wrong");
        if (wrong != 0) {
            System.exit(1);
        }
    }

    static void draw(DrawnPaths paths, int y, String row) {
        for (int k = 0; k < row.length(); k++) {
            paths.type(row.charAt(k));
        }
        paths.lay(y);
    }

    static DrawnPaths drawing(String... rows) {
        DrawnPaths paths = new DrawnPaths();
        for (int y = 0; y < rows.length; y++) {
            draw(paths, y, rows[y]);
        }
        return paths;
    }

    static DrawnPaths started(String... rows) {
        DrawnPaths paths = drawing(rows);
        paths.start();
        return paths;
    }

    static String written(DrawnPaths paths) {
        paths.output();
        StringBuilder page = new StringBuilder();
        for (int p = 0; p < paths.length(); p++) {
            page.append(paths.charAt(p));
        }
        return page.toString();
    }

    /** A pointer's x, y, direction, quoted, numbers from the top, and how many returns. */
    static String pointer(DrawnPaths paths, int k) {
        StringBuilder all = new StringBuilder();
        for (int what = 0; what < 4; what++) {
            all.append(paths.pointer(k, what)).append(' ');
        }
        all.append('[');
        for (int i = 0; i < paths.pointer(k, 4); i++) {
            all.append(i == 0 ? "" : " ").append(paths.value(k, i));
        }
        return all.append("] ").append(paths.pointer(k, 5)).toString();
    }

    /** Size, x, y, direction and quoted of a block; NONE is -1 in all. */
    static String block(DrawnPaths paths, int x, int y, int direction, boolean quoted) {
        StringBuilder all = new StringBuilder();
        for (int what = 0; what < 5; what++) {
            all.append(what == 0 ? "" : " ").append(paths.block(x, y, direction, quoted, what));
        }
        return all.toString();
    }
}

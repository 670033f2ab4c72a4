/** Several pointers, the steps that they do together, and what stops a run (promises 9, 11, 12, 13). */
public final class PointersTest {
    private static final Check CHECK = new Check("PointersTest");

    public static void main(String[] args) {
        forks();
        fourAtMost();
        endsBeforeForks();
        orderOfBeginning();
        writesAreSeenBehind();
        stackStops();
        quotedStop();
        inputStop();
        outputStops();
        stopAmongPointers();
        endBeforeStop();
        CHECK.end();
    }

    private static void forks() {
        DrawnPaths paths = Check.started("57f", "", "", "", "", "", "", "  9");
        paths.step(3);
        CHECK.same("two live", 2, paths.count(0));
        CHECK.same("the first", "3 0 0 0 [5] 0", Check.pointer(paths, 0));
        CHECK.same("the new one", "2 7 3 0 [7] 0", Check.pointer(paths, 1));
        paths.step(1);
        CHECK.same("both go on", "2 6 3 0 [9 7] 0", Check.pointer(paths, 1));
        DrawnPaths called = Check.started("42C", "", "    vR", "    f");
        called.step(5);
        CHECK.same("a new one has no returns", "5 3 0 0 [0] 0", Check.pointer(called, 1));
        CHECK.same("the first has its own", "4 4 1 0 [] 1", Check.pointer(called, 0));
    }

    private static void fourAtMost() {
        DrawnPaths paths = Check.started("1f2f3f4f");
        paths.step(6);
        CHECK.same("four", 4, paths.count(0));
        paths.step(1);
        CHECK.same("one to fork", 1, paths.pointer(0, 4));
        paths.step(1);
        CHECK.same("four still", 4, paths.count(0));
        CHECK.same("popped all the same", "8 0 0 0 [] 0", Check.pointer(paths, 0));
    }

    private static void endsBeforeForks() {
        // The first pointer ends in the step in which the second one forks.
        DrawnPaths first = Check.started("f   @");
        first.step(1);
        CHECK.same("the new one", "0 7 3 0 [0] 0", Check.pointer(first, 1));
        first.step(3);
        first.put(0, 4, 'f');
        first.step(1);
        CHECK.same("one ended, one began", 2, first.count(0));
        CHECK.same("the one left is the first now", "0 3 3 0 [] 0", Check.pointer(first, 0));
        CHECK.same("and the one that began", "11 4 2 0 [0] 0", Check.pointer(first, 1));
        // Of four, the first ends and the last forks in one step: there is room then.
        DrawnPaths full = Check.started("fff    @");
        full.step(7);
        CHECK.same("four before", 4, full.count(0));
        int x = full.pointer(3, 0);
        int y = full.pointer(3, 1);
        full.put(x, y, 'f');
        full.step(1);
        CHECK.same("four behind", 4, full.count(0));
        CHECK.same("the new one is the last", 2, full.pointer(3, 2));
        CHECK.same("the forking one is before it", 3, full.pointer(2, 2));
        // The last ends and the first forks: there is none yet.
        DrawnPaths late = Check.started("fff    f");
        late.step(7);
        late.put(late.pointer(3, 0), late.pointer(3, 1), '@');
        late.step(1);
        CHECK.same("three behind", 3, late.count(0));
    }

    private static void orderOfBeginning() {
        DrawnPaths paths = Check.started("1f2f3f");
        paths.step(6);
        for (int k = 1; k < 4; k++) {
            CHECK.same("pointer " + k, k, paths.value(k, 0));
        }
        paths.put(paths.pointer(1, 0), paths.pointer(1, 1), '@');
        paths.step(1);
        CHECK.same("three live", 3, paths.count(0));
        CHECK.same("second now", 2, paths.value(1, 0));
        CHECK.same("third now", 3, paths.value(2, 0));
        CHECK.noPlace("no fourth", () -> paths.pointer(3, 0));
    }

    private static void writesAreSeenBehind() {
        // The first one writes @ where the second one stands in the same step.
        DrawnPaths paths = Check.started("0f\"@\"06w");
        paths.step(2);
        CHECK.same("where the second is", "1 7 3 0 [0] 0", Check.pointer(paths, 1));
        paths.step(5);
        CHECK.same("on its way", "1 2 3 0 [0] 0", Check.pointer(paths, 1));
        paths.put(6, 0, '2');
        paths.put(5, 0, '1');
        paths.start();
        paths.step(7);
        CHECK.same("two live", 2, paths.count(0));
        CHECK.same("both before the write", "1 2 3 0 [0] 0", Check.pointer(paths, 1));
        paths.step(1);
        CHECK.same("written", '@', paths.sign(1, 2));
        CHECK.same("it ended at once", 1, paths.count(0));
    }

    private static void stackStops() {
        String pushing = "0123456789ci";
        for (int k = 0; k < pushing.length(); k++) {
            DrawnPaths paths = Check.started("123456789999");
            paths.step(24);
            String full = Check.pointer(paths, 0);
            paths.put(0, 0, pushing.charAt(k));
            CHECK.same(pushing.charAt(k) + " on a full stack", 2, paths.step(1));
            CHECK.same("as it was", full, Check.pointer(paths, 0));
            CHECK.same("not counted", 24, paths.count(1));
        }
        DrawnPaths copying = Check.started("123456789999", "");
        copying.step(24);
        copying.put(0, 0, 'c');
        CHECK.same("c on a full stack", 2, copying.step(1));
        CHECK.same("24", 24, copying.pointer(0, 4));
        CHECK.same("the steps", 24, copying.count(1));
        CHECK.same("no more steps", 2, copying.step(10));
        CHECK.same("nor fast ones", 2, copying.fast(10));
        copying.put(0, 0, 'x');
        CHECK.same("stopped for good", 2, copying.step(1));
        CHECK.same("the steps stay", 24, copying.count(1));
        String free = "+-*dmsxrg";
        for (int k = 0; k < free.length(); k++) {
            DrawnPaths paths = Check.started("123456789999", "");
            paths.step(24);
            paths.put(0, 0, free.charAt(k));
            CHECK.same(free.charAt(k) + " on a full stack", DrawnPaths.RUNNING, paths.step(1));
        }
        DrawnPaths room = Check.started("123456789999", "");
        room.step(23);
        room.put(11, 0, 'c');
        CHECK.same("room for c", DrawnPaths.RUNNING, room.step(1));
        CHECK.same("24 then", 24, room.pointer(0, 4));
    }

    private static void quotedStop() {
        DrawnPaths paths = Check.started("\"");
        CHECK.same("once round", DrawnPaths.RUNNING, paths.step(12));
        CHECK.same("11 quoted", 11, paths.pointer(0, 4));
        paths.put(0, 0, 'a');
        CHECK.same("24 quoted", DrawnPaths.RUNNING, paths.step(13));
        CHECK.same("24", 24, paths.pointer(0, 4));
        paths.put(1, 0, '"');
        CHECK.same("the end of quotes pushes nothing", DrawnPaths.RUNNING, paths.step(1));
        paths.put(2, 0, '"');
        CHECK.same("nor their beginning", DrawnPaths.RUNNING, paths.step(1));
        CHECK.same("a quoted one too many", 2, paths.step(1));
        CHECK.same("quoted still", 1, paths.pointer(0, 3));
        CHECK.same("where it stopped", 3, paths.pointer(0, 0));
    }

    private static void inputStop() {
        DrawnPaths paths = Check.started("123456789999", "");
        paths.input(77);
        paths.step(24);
        paths.put(0, 0, 'i');
        CHECK.same("i on a full stack", 2, paths.step(1));
        CHECK.same("nothing read", 1, paths.count(4));
        CHECK.same("the top", 9, paths.value(0, 0));
    }

    private static void outputStops() {
        // One character in twelve steps.
        DrawnPaths full = Check.started("b");
        CHECK.same("80 characters", DrawnPaths.RUNNING, full.step(79 * 12 + 1));
        CHECK.same("80", 80, full.output());
        CHECK.same("one more", 3, full.step(1000));
        CHECK.same("80 still", 80, full.output());
        CHECK.same("at b", "0 0 0 0 [] 0", Check.pointer(full, 0));
        CHECK.same("steps", 960, full.count(1));
        // 78 characters, then two that fit.
        DrawnPaths fits = Check.started("bb");
        fits.step(38 * 12 + 2);
        CHECK.same("78", 78, fits.output());
        fits.put(0, 0, '7');
        fits.put(1, 0, 'n');
        CHECK.same("two fit", DrawnPaths.RUNNING, fits.step(12));
        CHECK.same("80 now", 80, fits.output());
        // 78 characters, then three that don't.
        DrawnPaths wide = Check.started("bb");
        wide.step(38 * 12 + 2);
        wide.put(0, 0, 'i');
        wide.put(1, 0, 'n');
        wide.input(-5);
        CHECK.same("three don't", 3, wide.step(12));
        CHECK.same("nothing written", 78, wide.output());
        CHECK.same("nothing popped", "1 0 0 0 [-5] 0", Check.pointer(wide, 0));
        CHECK.same("the step is not counted", 38 * 12 + 13, wide.count(1));
    }

    private static void stopAmongPointers() {
        // The second pointer goes up a column of ones; the first one turns south at 2, 0.
        DrawnPaths paths = Check.started("ffv");
        paths.step(2);
        for (int y = 0; y < 8; y++) {
            paths.put(0, y, '1');
        }
        paths.put(1, 0, ' ');
        CHECK.same("the second one comes to 24 numbers", DrawnPaths.RUNNING, paths.step(23));
        CHECK.same("24", 24, paths.pointer(1, 4));
        CHECK.same("the first one", "2 7 1 0 [] 0", Check.pointer(paths, 0));
        CHECK.same("the third one", "1 0 3 0 [0] 0", Check.pointer(paths, 2));
        String second = Check.pointer(paths, 1);
        paths.put(2, 7, 'f');
        paths.put(1, 0, '5');
        CHECK.same("stopped", 2, paths.step(3));
        CHECK.same("the step is not counted", 25, paths.count(1));
        CHECK.same("the one before did its sign", "2 0 1 0 [] 0", Check.pointer(paths, 0));
        CHECK.same("the second is as it was", second, Check.pointer(paths, 1));
        CHECK.same("the one behind, too", "1 0 3 0 [0] 0", Check.pointer(paths, 2));
        CHECK.same("four live", 4, paths.count(0));
        CHECK.same("the one that began stays", "3 7 0 0 [0] 0", Check.pointer(paths, 3));
        CHECK.same("fast stays stopped", 2, paths.fast(3));
        CHECK.same("nothing more is done", 25, paths.count(1));
    }

    private static void endBeforeStop() {
        // The first pointer ends in the step that the second one stops.
        DrawnPaths paths = Check.started("fv");
        paths.step(1);
        for (int y = 0; y < 8; y++) {
            paths.put(0, y, '1');
        }
        CHECK.same("23 more", DrawnPaths.RUNNING, paths.step(23));
        CHECK.same("the first one", "1 7 1 0 [] 0", Check.pointer(paths, 0));
        paths.put(1, 7, '@');
        CHECK.same("stopped", 2, paths.step(1));
        CHECK.same("the first one ended", 1, paths.count(0));
        CHECK.same("the second one lives", 24, paths.pointer(0, 4));
        CHECK.same("the state", 2, paths.count(5));
    }
}

import java.util.Random;
import java.util.Set;

/** All promises at once: drawings from fixed seeds, beside the plain writing of the document. */
public final class SameTest {
    private static final Check CHECK = new Check("SameTest");
    private static final String[] KINDS = {
        " ><v^/\\#\"0123456789+-*dmcsxrgw?nbiCRf@",
        "        ><v^/\\#  1234567890cs",
        "    ><v^0123?fffwwggiC",
        "    ><v^/\\  \"\"c12345i+*g-d?xsrw",
        "012345678999ccsRCC>v?f",
        "   \"\"\"#<>^vff@CRnb19"};
    private static final long[] NUMBERS = {0, 1, -1, 64, 119, 127, 200, -300, Long.MIN_VALUE, Long.MAX_VALUE};

    private final Random random;
    private final String kind;
    private final DrawnPaths paths = new DrawnPaths();
    private final PlainPaths plain = new PlainPaths();
    private final String name;

    private SameTest(int seed) {
        random = new Random(seed);
        kind = KINDS[seed % KINDS.length];
        name = "seed " + seed;
    }

    public static void main(String[] args) {
        int[] states = new int[4];
        for (int seed = 0; seed < 3000; seed++) {
            states[new SameTest(seed).run()]++;
        }
        for (int state = 0; state < 4; state++) {
            CHECK.same("state " + state + " was met", true, states[state] > 20);
        }
        CHECK.sentence("Both do the same.", () -> {
            for (int seed = 0; seed < 3000; seed++) {
                stepsAndFastDoTheSame(seed);
            }
        });
        CHECK.end();
    }

    private int run() {
        for (int y = 0; y < 8; y++) {
            layRow(y);
        }
        start();
        int worst = 0;
        for (int call = 0; call < 80; call++) {
            change();
            look();
            worst = Math.max(worst, plain.state());
        }
        lookAtAll();
        return worst;
    }

    private void start() {
        paths.start();
        plain.start();
    }

    private char anySign() {
        return kind.charAt(random.nextInt(kind.length()));
    }

    private void layRow(int y) {
        int size = random.nextInt(14);
        for (int k = 0; k < size; k++) {
            char c = random.nextInt(20) == 0 ? (char) random.nextInt(200) : anySign();
            boolean fits = c >= 32 && c <= 126 && plain.text.length() < 12;
            plain.text += fits ? "" + c : "";
            CHECK.same(name + " type", fits, paths.type(c));
        }
        CHECK.same(name + " lay", plain.text.length(), paths.lay(y));
        plain.lay(y);
    }

    private void change() {
        int choice = random.nextInt(24);
        if (choice < 7) {
            int n = steps();
            CHECK.same(name + " step", plain.step(n), paths.step(n));
        } else if (choice < 17) {
            int n = steps();
            CHECK.same(name + " fast", plain.fast(n), paths.fast(n));
        } else if (choice < 19) {
            putOne();
        } else if (choice < 20) {
            layRow(random.nextInt(8));
        } else if (choice < 22) {
            if (plain.input.size() < 40) {
                long v = NUMBERS[random.nextInt(NUMBERS.length)];
                plain.input.add(v);
                CHECK.same(name + " input", plain.input.size(), paths.input(v));
            }
        } else if (choice < 23 || random.nextInt(6) > 0) {
            start();
        } else {
            paths.clear();
            plain.clear();
            layRow(0);
            layRow(1);
            start();
        }
    }

    private int steps() {
        int most = new int[] {3, 12, 40, 1000}[random.nextInt(4)];
        return 1 + random.nextInt(most);
    }

    private void putOne() {
        int x = random.nextInt(12);
        int y = random.nextInt(8);
        char c = anySign();
        CHECK.same(name + " put", plain.signs[y][x], paths.put(x, y, c));
        plain.set(x, y, c);
    }

    private void look() {
        lookAtCounts();
        CHECK.same(name + " pointers", walkers(), pointers());
        int x = random.nextInt(12);
        int y = random.nextInt(8);
        CHECK.same(name + " sign", plain.signs[y][x], paths.sign(x, y));
        CHECK.same(name + " covers", plain.blocks.stream().filter(b -> b.over(x, y)).count(), paths.covers(x, y));
        if (random.nextInt(3) == 0) {
            CHECK.same(name + " output", plain.output, Check.written(paths));
        }
    }

    private void lookAtCounts() {
        int[] want = {plain.living.size(), plain.steps, plain.blocks.size(), plain.dropped,
            plain.input.size() - plain.next, plain.state()};
        for (int what = 0; what < want.length; what++) {
            CHECK.same(name + " count " + what, want[what], paths.count(what));
        }
    }

    private String walkers() {
        StringBuilder all = new StringBuilder();
        for (PlainPaths.Walker one : plain.living) {
            PlainPaths.At at = one.at;
            all.append(at.x()).append(' ').append(at.y()).append(' ').append(at.direction());
            all.append(at.quoted() ? " 1 [" : " 0 [");
            for (int k = one.stack.size() - 1; k >= 0; k--) {
                all.append(one.stack.get(k)).append(k == 0 ? "" : " ");
            }
            all.append("] ").append(one.returns.size()).append('\n');
        }
        return all.toString();
    }

    private String pointers() {
        StringBuilder all = new StringBuilder();
        for (int k = 0; k < paths.count(0); k++) {
            all.append(Check.pointer(paths, k)).append('\n');
        }
        return all.toString();
    }

    private void lookAtAll() {
        Set<Integer> lost = plain.lostPlaces();
        CHECK.same(name + " lost ones", lost.size(), paths.count(6));
        for (int place = 0; place < 96; place++) {
            int x = place % 12;
            int y = place / 12;
            CHECK.same(name + " lost", lost.contains(place), paths.lost(x, y));
            CHECK.same(name + " sign", plain.signs[y][x], paths.sign(x, y));
            CHECK.same(name + " covers", plain.blocks.stream().filter(b -> b.over(x, y)).count(), paths.covers(x, y));
            for (int k = 0; k < 8; k++) {
                lookAtBlock(new PlainPaths.At(x, y, k / 2, k % 2 == 1));
            }
        }
    }

    private void lookAtBlock(PlainPaths.At begin) {
        PlainPaths.Straight block = plain.begun(begin);
        String want = "-1 -1 -1 -1 -1";
        if (block != null) {
            PlainPaths.At at = block.behind;
            want = block.ways.size() + " " + at.x() + " " + at.y() + " " + at.direction() + (at.quoted() ? " 1" : " 0");
        }
        CHECK.same(name + " block", want, Check.block(paths, begin.x(), begin.y(), begin.direction(), begin.quoted()));
    }

    private static void stepsAndFastDoTheSame(int seed) {
        SameTest one = new SameTest(seed);
        SameTest other = new SameTest(seed);
        for (int y = 0; y < 8; y++) {
            one.layRow(y);
            other.layRow(y);
        }
        one.start();
        other.start();
        for (int call = 0; call < 8; call++) {
            int n = one.steps();
            CHECK.same("state of seed " + seed, one.paths.step(n), other.paths.fast(n));
            CHECK.same("steps of seed " + seed, one.paths.count(1), other.paths.count(1));
            CHECK.same("pointers of seed " + seed, one.pointers(), other.pointers());
            CHECK.same("output of seed " + seed, Check.written(one.paths), Check.written(other.paths));
        }
    }
}

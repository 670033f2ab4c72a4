import java.util.ArrayList;
import java.util.Arrays;
import java.util.HashSet;
import java.util.List;
import java.util.Set;

/**
 * The document once more, for tests alone: written without regard to room or speed, and in other ways
 * than the program (signs are tried on a copy of the pointer, blocks keep a list of their ways).
 */
final class PlainPaths {
    static final class Halt extends RuntimeException {
        private static final long serialVersionUID = 1L;
        final int kind;

        Halt(int kind) {
            super(null, null, false, false);
            this.kind = kind;
        }
    }

    record At(int x, int y, int direction, boolean quoted) {
        At move() {
            int dx = direction == 0 ? 1 : direction == 2 ? -1 : 0;
            int dy = direction == 1 ? 1 : direction == 3 ? -1 : 0;
            return new At(Math.floorMod(x + dx, 12), Math.floorMod(y + dy, 8), direction, quoted);
        }

        At to(int newDirection) {
            return new At(x, y, Math.floorMod(newDirection, 4), quoted);
        }

        At quote(boolean now) {
            return new At(x, y, direction, now);
        }
    }

    static final class Walker {
        At at;
        boolean dead;
        List<Long> stack = new ArrayList<>();
        List<At> returns = new ArrayList<>();

        Walker(At at) {
            this.at = at;
        }

        Walker copy() {
            Walker other = new Walker(at);
            other.stack.addAll(stack);
            other.returns.addAll(returns);
            return other;
        }

        long pop() {
            return stack.isEmpty() ? 0 : stack.remove(stack.size() - 1);
        }

        void push(long v) {
            if (stack.size() == 24) {
                throw new Halt(2);
            }
            stack.add(v);
        }
    }

    static final class Straight {
        At begin;
        List<At> ways = new ArrayList<>();
        At behind;

        boolean over(int x, int y) {
            return ways.stream().anyMatch(w -> w.x() == x && w.y() == y);
        }
    }

    char[][] signs = new char[8][12];
    String text = "";
    String page = "";
    String output = "";
    List<Long> input = new ArrayList<>();
    int next;
    List<Walker> living = new ArrayList<>();
    List<Straight> blocks = new ArrayList<>();
    int dropped;
    int steps;
    int stopped;

    PlainPaths() {
        for (char[] row : signs) {
            Arrays.fill(row, ' ');
        }
    }

    int state() {
        return stopped != 0 ? stopped : living.isEmpty() ? 1 : 0;
    }

    void set(int x, int y, char c) {
        if (signs[y][x] != c) {
            signs[y][x] = c;
            int before = blocks.size();
            blocks.removeIf(b -> b.over(x, y));
            dropped += before - blocks.size();
        }
    }

    void lay(int y) {
        String row = (text + "            ").substring(0, 12);
        text = "";
        for (int x = 0; x < 12; x++) {
            set(x, y, row.charAt(x));
        }
    }

    void clear() {
        for (char[] row : signs) {
            Arrays.fill(row, ' ');
        }
        living.clear();
        input.clear();
        next = 0;
        output = "";
        blocks.clear();
        steps = 0;
        dropped = 0;
        stopped = 0;
    }

    void start() {
        living.clear();
        living.add(new Walker(new At(0, 0, 0, false)));
        output = "";
        next = 0;
        steps = 0;
        stopped = 0;
    }

    void oneStep() {
        for (Walker one : new ArrayList<>(living)) {
            Walker tried = one.copy();
            int nextBefore = next;
            String outputBefore = output;
            try {
                act(tried, living.size());
            } catch (Halt halt) {
                next = nextBefore;
                output = outputBefore;
                stopped = halt.kind;
                return;
            }
            if (tried.dead) {
                living.remove(one);
            } else {
                one.at = tried.at;
                one.stack = tried.stack;
                one.returns = tried.returns;
            }
        }
        steps++;
    }

    static char code(long v) {
        int c = (int) (v & 127);
        return c < 32 || c > 126 ? ' ' : (char) c;
    }

    void print(String more) {
        if ((output + more).length() > 80) {
            throw new Halt(3);
        }
        output += more;
    }

    /** The way behind a sign that is no act, or null. */
    static At passed(At at, char sign) {
        if (at.quoted()) {
            return at.quote(sign != '"').move();
        }
        return switch (sign) {
            case '"' -> at.quote(true).move();
            case '>' -> at.to(0).move();
            case 'v' -> at.to(1).move();
            case '<' -> at.to(2).move();
            case '^' -> at.to(3).move();
            case '/' -> at.to(new int[] {3, 2, 1, 0}[at.direction()]).move();
            case '\\' -> at.to(new int[] {1, 0, 3, 2}[at.direction()]).move();
            case '#' -> at.move().move();
            case '?', 'n', 'b', 'i', 'w', 'C', 'R', 'f', '@' -> null;
            default -> at.move();
        };
    }

    void act(Walker p, int alive) {
        At at = p.at;
        char sign = signs[at.y()][at.x()];
        At behind = passed(at, sign);
        p.at = behind == null ? at.move() : behind;
        if (at.quoted()) {
            if (sign != '"') {
                p.push(sign);
            }
            return;
        }
        if (sign >= '0' && sign <= '9') {
            p.push(sign - '0');
            return;
        }
        if ("+-*dm".indexOf(sign) >= 0) {
            long b = p.pop();
            long a = p.pop();
            p.push(switch (sign) {
                case '+' -> a + b;
                case '-' -> a - b;
                case '*' -> a * b;
                case 'd' -> b == 0 ? 0 : a / b;
                default -> b == 0 ? 0 : a % b;
            });
            return;
        }
        switch (sign) {
            case 'c' -> {
                long a = p.pop();
                p.push(a);
                p.push(a);
            }
            case 's' -> {
                long b = p.pop();
                long a = p.pop();
                p.push(b);
                p.push(a);
            }
            case 'x' -> p.pop();
            case 'r' -> {
                long n = p.pop();
                int size = p.stack.size();
                p.push(n < 0 || n >= size ? 0 : p.stack.get((int) (size - 1 - n)));
            }
            case 'g' -> {
                int y = (int) Math.floorMod(p.pop(), 8L);
                int x = (int) Math.floorMod(p.pop(), 12L);
                p.push(signs[y][x]);
            }
            case 'w' -> {
                int y = (int) Math.floorMod(p.pop(), 8L);
                int x = (int) Math.floorMod(p.pop(), 12L);
                set(x, y, code(p.pop()));
            }
            case '?' -> {
                long a = p.pop();
                p.at = at.to(at.direction() + Long.signum(a)).move();
            }
            case 'n' -> print(p.pop() + " ");
            case 'b' -> print("" + code(p.pop()));
            case 'i' -> p.push(next < input.size() ? input.get(next++) : -1L);
            case 'C' -> {
                int y = (int) Math.floorMod(p.pop(), 8L);
                int x = (int) Math.floorMod(p.pop(), 12L);
                if (p.returns.size() == 8) {
                    throw new Halt(2);
                }
                p.returns.add(p.at);
                p.at = new At(x, y, at.direction(), false);
            }
            case 'R' -> {
                if (p.returns.isEmpty()) {
                    p.dead = true;
                } else {
                    p.at = p.returns.remove(p.returns.size() - 1);
                }
            }
            case 'f' -> {
                long a = p.pop();
                if (alive < 4) {
                    Walker born = new Walker(at.to(at.direction() - 1).move());
                    born.push(a);
                    living.add(born);
                }
            }
            case '@' -> p.dead = true;
            default -> { }
        }
    }

    int step(int n) {
        for (int k = 0; k < n && state() == 0; k++) {
            oneStep();
        }
        return state();
    }

    Straight begun(At at) {
        return blocks.stream().filter(b -> b.begin.equals(at)).findFirst().orElse(null);
    }

    Straight trace(At begin) {
        Straight made = new Straight();
        made.begin = begin;
        made.behind = begin;
        while (made.ways.size() < 32 && !made.ways.contains(made.behind)) {
            At after = passed(made.behind, signs[made.behind.y()][made.behind.x()]);
            if (after == null) {
                break;
            }
            made.ways.add(made.behind);
            made.behind = after;
        }
        return made;
    }

    int fast(int n) {
        int left = n;
        while (left > 0 && state() == 0) {
            int together = 1;
            Walker one = living.get(0);
            if (living.size() == 1 && passed(one.at, signs[one.at.y()][one.at.x()]) != null) {
                if (begun(one.at) == null && blocks.size() < 30) {
                    blocks.add(trace(one.at));
                }
                Straight found = begun(one.at);
                if (found != null && found.ways.size() <= left && found.ways.size() + one.stack.size() < 24) {
                    together = found.ways.size();
                }
            }
            for (int k = 0; k < together; k++) {
                oneStep();
            }
            left -= together;
        }
        return state();
    }

    Set<Integer> lostPlaces() {
        Set<At> seen = new HashSet<>();
        List<At> open = new ArrayList<>(List.of(new At(0, 0, 0, false)));
        while (!open.isEmpty()) {
            At at = open.remove(open.size() - 1);
            if (!seen.add(at)) {
                continue;
            }
            char sign = signs[at.y()][at.x()];
            At behind = passed(at, sign);
            if (behind != null) {
                open.add(behind);
            } else if (sign != 'R' && sign != '@') {
                open.add(at.move());
                if (sign == '?' || sign == 'f') {
                    open.add(at.to(at.direction() - 1).move());
                }
                if (sign == '?') {
                    open.add(at.to(at.direction() + 1).move());
                }
            }
        }
        Set<Integer> lost = new HashSet<>();
        for (int place = 0; place < 96; place++) {
            int x = place % 12;
            int y = place / 12;
            if (signs[y][x] != ' ' && seen.stream().noneMatch(a -> a.x() == x && a.y() == y)) {
                lost.add(place);
            }
        }
        return lost;
    }
}

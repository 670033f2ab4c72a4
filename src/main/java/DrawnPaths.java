/**
 * Programs that are drawings: pointers go over a field of signs, which turn them, reckon on their
 * stacks, read and write the field itself; a run may be done sign by sign, or by blocks of straight
 * ways that are kept as long as their signs stay as they were.
 */
public final class DrawnPaths {
    public static final int RUNNING = 0;
    public static final int ENDED = 1;
    public static final int NONE = -1;

    private static final int STACK_STOP = 2;
    private static final int OUTPUT_STOP = 3;

    private static final int COLUMNS = 12;
    private static final int ROWS = 8;
    private static final int PLACES = 96;
    private static final int DIRECTIONS = 4;
    private static final int WAYS = 768;
    private static final char BLANK = ' ';
    private static final char LAST_SIGN = '~';
    private static final int CODE_MASK = 127;

    private static final int MOST_POINTERS = 4;
    private static final int MOST_NUMBERS = 24;
    private static final int MOST_RETURNS = 8;
    private static final int MOST_INPUT = 40;
    private static final int MOST_OUTPUT = 80;
    private static final int MOST_BLOCKS = 30;
    private static final int MOST_BLOCK_SIGNS = 32;
    private static final int MOST_STEPS = 1000;
    private static final int MOST_DIGITS = 20;

    private final Blocks blocks;
    private final Field field;
    private final Run run;
    private final Search search;
    private final Line text;
    private final Line page;

    public DrawnPaths() {
        blocks = new Blocks();
        field = new Field(blocks);
        run = new Run(field);
        search = new Search();
        text = new Line(COLUMNS);
        page = new Line(MOST_OUTPUT);
    }

    public char put(int x, int y, char c) throws IndexOutOfBoundsException, IllegalArgumentException {
        int place = placeAt(x, y);
        if (!isSign(c)) {
            throw new IllegalArgumentException("no sign");
        }
        char before = field.signs[place];
        field.write(place, c);
        return before;
    }

    public char sign(int x, int y) throws IndexOutOfBoundsException {
        return field.signs[placeAt(x, y)];
    }

    public boolean type(char c) {
        if (!isSign(c) || !text.hasRoom(1)) {
            return false;
        }
        text.add(c);
        return true;
    }

    public int lay(int y) throws IndexOutOfBoundsException {
        int first = placeAt(0, y);
        int laid = text.size;
        for (int x = 0; x < COLUMNS; x++) {
            field.write(first + x, text.at(x));
        }
        text.empty();
        return laid;
    }

    public int input(long v) throws IllegalStateException {
        if (run.given == MOST_INPUT) {
            throw new IllegalStateException("the input is full");
        }
        run.give(v);
        return run.given;
    }

    public void clear() {
        field.wipe();
        blocks.forget();
        run.forget();
    }

    public void start() {
        run.begin();
    }

    public int step(int n) throws IllegalArgumentException {
        checkSteps(n);
        for (int done = 0; done < n && run.state() == RUNNING; done++) {
            run.advance();
        }
        return run.state();
    }

    public int fast(int n) throws IllegalArgumentException {
        checkSteps(n);
        int together = 0;
        for (int done = 0; done < n && run.state() == RUNNING; done++) {
            if (together == 0) {
                together = run.signsTogether(n - done);
            }
            run.advance();
            together--;
        }
        return run.state();
    }

    public int pointer(int k, int what) throws IndexOutOfBoundsException, IllegalArgumentException {
        Pointer asked = livingPointer(k);
        switch (what) {
            case 0:
                return Way.place(asked.way) % COLUMNS;
            case 1:
                return Way.place(asked.way) / COLUMNS;
            case 2:
                return Way.direction(asked.way);
            case 3:
                return Way.quotes(asked.way);
            case 4:
                return asked.depth;
            case 5:
                return asked.returning;
            default:
                throw new IllegalArgumentException("no such property of a pointer");
        }
    }

    public long value(int k, int i) throws IndexOutOfBoundsException {
        Pointer asked = livingPointer(k);
        if (i < 0 || i >= asked.depth) {
            throw new IndexOutOfBoundsException("no such number");
        }
        return asked.fromTop(i);
    }

    public int count(int what) {
        switch (what) {
            case 0:
                return run.living;
            case 1:
                return run.steps;
            case 2:
                return blocks.held;
            case 3:
                return blocks.dropped;
            case 4:
                return run.given - run.read;
            case 5:
                return run.state();
            case 6:
                return lostPlaces();
            default:
                return NONE;
        }
    }

    public int covers(int x, int y) throws IndexOutOfBoundsException {
        return blocks.over(placeAt(x, y));
    }

    public int block(int x, int y, int direction, boolean quoted, int what)
            throws IndexOutOfBoundsException, IllegalArgumentException {
        int place = placeAt(x, y);
        if (direction < 0 || direction >= DIRECTIONS || what < 0 || what > 4) {
            throw new IllegalArgumentException("no such direction or property of a block");
        }
        Block asked = blocks.find(Way.of(place, direction, quoted ? 1 : 0));
        if (asked == null) {
            return NONE;
        }
        switch (what) {
            case 0:
                return asked.size;
            case 1:
                return Way.place(asked.behind) % COLUMNS;
            case 2:
                return Way.place(asked.behind) / COLUMNS;
            case 3:
                return Way.direction(asked.behind);
            default:
                return Way.quotes(asked.behind);
        }
    }

    public boolean lost(int x, int y) throws IndexOutOfBoundsException {
        int place = placeAt(x, y);
        if (field.signs[place] == BLANK) {
            return false;
        }
        search.explore(field.signs);
        return !search.cameTo(place);
    }

    public int output() {
        page.copy(run.written);
        return page.size;
    }

    public int length() {
        return page.size;
    }

    public char charAt(int p) {
        return page.at(p);
    }

    private int lostPlaces() {
        search.explore(field.signs);
        int found = 0;
        for (int place = 0; place < PLACES; place++) {
            if (field.signs[place] != BLANK && !search.cameTo(place)) {
                found++;
            }
        }
        return found;
    }

    private Pointer livingPointer(int k) {
        if (k < 0 || k >= run.living) {
            throw new IndexOutOfBoundsException("no such pointer");
        }
        return run.pointers[k];
    }

    private static int placeAt(int x, int y) {
        if (x < 0 || x >= COLUMNS || y < 0 || y >= ROWS) {
            throw new IndexOutOfBoundsException("no such place");
        }
        return y * COLUMNS + x;
    }

    private static int joinedPlace(long x, long y) {
        int column = (int) Math.floorMod(x, 12L);
        int row = (int) Math.floorMod(y, 8L);
        return row * COLUMNS + column;
    }

    private static void checkSteps(int n) {
        if (n < 1 || n > MOST_STEPS) {
            throw new IllegalArgumentException("not 1 .. 1000 steps");
        }
    }

    private static boolean isSign(char c) {
        return c >= BLANK && c <= LAST_SIGN;
    }

    private static char signOf(long number) {
        char c = (char) (number & CODE_MASK);
        return isSign(c) ? c : BLANK;
    }

    private static boolean isAct(int way, char sign) {
        if (Way.quotes(way) == 1) {
            return false;
        }
        switch (sign) {
            case '?':
            case 'n':
            case 'b':
            case 'i':
            case 'w':
            case 'C':
            case 'R':
            case 'f':
            case '@':
                return true;
            default:
                return false;
        }
    }

    /**
     * A way is a place, a direction and whether it is quoted, in one number 0 .. 767: so ways can be
     * compared, kept as returns and marked without objects of their own.
     */
    private static final class Way {
        static final int RIGHT = 1;
        static final int LEFT = 3;

        static int of(int place, int direction, int quotes) {
            return place * 8 + direction * 2 + quotes;
        }

        static int place(int way) {
            return way >> 3;
        }

        static int direction(int way) {
            return way >> 1 & 3;
        }

        static int quotes(int way) {
            return way & 1;
        }

        static int turned(int way, int quarters) {
            return directed(way, direction(way) + quarters & 3);
        }

        static int directed(int way, int direction) {
            return way & ~6 | direction << 1;
        }

        static int ahead(int way) {
            int x = place(way) % COLUMNS;
            int y = place(way) / COLUMNS;
            switch (direction(way)) {
                case 0:
                    x = x == COLUMNS - 1 ? 0 : x + 1;
                    break;
                case 1:
                    y = y == ROWS - 1 ? 0 : y + 1;
                    break;
                case 2:
                    x = x == 0 ? COLUMNS - 1 : x - 1;
                    break;
                default:
                    y = y == 0 ? ROWS - 1 : y - 1;
                    break;
            }
            return (y * COLUMNS + x) * 8 + (way & 7);
        }

        /** The way behind a sign; an act counts here as one that neither turns nor jumps. */
        static int behind(int way, char sign) {
            if (sign == '"') {
                return ahead(way ^ 1);
            }
            if (quotes(way) == 1) {
                return ahead(way);
            }
            switch (sign) {
                case '>':
                    return ahead(directed(way, 0));
                case 'v':
                    return ahead(directed(way, 1));
                case '<':
                    return ahead(directed(way, 2));
                case '^':
                    return ahead(directed(way, 3));
                case '/':
                    return ahead(directed(way, 3 - direction(way)));
                case '\\':
                    return ahead(directed(way, direction(way) ^ 1));
                case '#':
                    return ahead(ahead(way));
                default:
                    return ahead(way);
            }
        }
    }

    /** A row of characters with a limit: the text, the output, the page. */
    private static final class Line {
        final char[] characters;
        int size;

        Line(int most) {
            characters = new char[most];
        }

        boolean hasRoom(int more) {
            return more <= characters.length - size;
        }

        void add(char c) {
            if (size < characters.length) {
                characters[size] = c;
                size++;
            }
        }

        char at(int p) {
            return p >= 0 && p < size ? characters[p] : BLANK;
        }

        void empty() {
            size = 0;
        }

        void copy(Line other) {
            size = Math.min(other.size, characters.length);
            System.arraycopy(other.characters, 0, characters, 0, size);
        }
    }

    private static final class Field {
        final char[] signs = new char[PLACES];
        final Blocks blocks;

        Field(Blocks blocks) {
            this.blocks = blocks;
            wipe();
        }

        void write(int place, char c) {
            if (signs[place] != c) {
                signs[place] = c;
                blocks.drop(place);
            }
        }

        void wipe() {
            for (int place = 0; place < PLACES; place++) {
                signs[place] = BLANK;
            }
        }
    }

    private static final class Block {
        int begin;
        int behind;
        int size;
        // 96 places are more than one long has bits.
        long lowPlaces;
        long highPlaces;

        boolean isOver(int place) {
            long places = place < 64 ? lowPlaces : highPlaces;
            return (places >>> (place & 63) & 1L) == 1L;
        }

        void addPlace(int place) {
            if (place < 64) {
                lowPlaces |= 1L << place;
            } else {
                highPlaces |= 1L << (place - 64);
            }
        }

        /** Marks has a bit for each way over a place; it is all 0 when the block is traced. */
        void trace(int way, char[] signs, int[] marks) {
            begin = way;
            lowPlaces = 0L;
            highPlaces = 0L;
            int next = way;
            int traced = 0;
            while (traced < MOST_BLOCK_SIGNS) {
                int place = Way.place(next);
                int mark = 1 << (next & 7);
                if ((marks[place] & mark) != 0 || isAct(next, signs[place])) {
                    break;
                }
                marks[place] |= mark;
                addPlace(place);
                next = Way.behind(next, signs[place]);
                traced++;
            }
            size = traced;
            behind = next;
        }
    }

    /** The blocks that are kept: the first ones of a row whose others wait to be used again. */
    private static final class Blocks {
        final Block[] row = new Block[MOST_BLOCKS];
        final int[] marks = new int[PLACES];
        int held;
        int dropped;

        Blocks() {
            for (int k = 0; k < MOST_BLOCKS; k++) {
                row[k] = new Block();
            }
        }

        Block find(int way) {
            for (int k = 0; k < held; k++) {
                if (row[k].begin == way) {
                    return row[k];
                }
            }
            return null;
        }

        /** Null if there are as many blocks as there may be. */
        Block make(int way, char[] signs) {
            if (held == MOST_BLOCKS) {
                return null;
            }
            for (int place = 0; place < PLACES; place++) {
                marks[place] = 0;
            }
            Block made = row[held];
            held++;
            made.trace(way, signs, marks);
            return made;
        }

        void drop(int place) {
            int kept = 0;
            int before = held;
            for (int k = 0; k < before; k++) {
                Block looked = row[k];
                if (!looked.isOver(place)) {
                    row[k] = row[kept];
                    row[kept] = looked;
                    kept++;
                }
            }
            dropped += before - kept;
            held = kept;
        }

        int over(int place) {
            int found = 0;
            for (int k = 0; k < held; k++) {
                if (row[k].isOver(place)) {
                    found++;
                }
            }
            return found;
        }

        void forget() {
            held = 0;
            dropped = 0;
        }
    }

    private static final class Pointer {
        final long[] numbers = new long[MOST_NUMBERS];
        final int[] returns = new int[MOST_RETURNS];
        int way;
        int depth;
        int returning;

        void begin(int firstWay) {
            way = firstWay;
            depth = 0;
            returning = 0;
        }

        boolean isFull() {
            return depth == MOST_NUMBERS;
        }

        void push(long number) {
            if (depth < MOST_NUMBERS) {
                numbers[depth] = number;
                depth++;
            }
        }

        long pop() {
            if (depth == 0) {
                return 0L;
            }
            depth--;
            return numbers[depth];
        }

        long fromTop(long n) {
            return n >= 0L && n < depth ? numbers[depth - 1 - (int) n] : 0L;
        }
    }

    /** The pointers, the input and the output of a run, and what the signs do to them. */
    private static final class Run {
        static final int GOES_ON = 0;
        static final int ENDS = 1;

        final Field field;
        // Those that live come first, in the order in which they began.
        final Pointer[] pointers = new Pointer[MOST_POINTERS];
        final long[] numbers = new long[MOST_INPUT];
        final char[] digits = new char[MOST_DIGITS];
        final Line written = new Line(MOST_OUTPUT);
        int living;
        int given;
        int read;
        int steps;
        int stopped;

        Run(Field field) {
            this.field = field;
            for (int k = 0; k < MOST_POINTERS; k++) {
                pointers[k] = new Pointer();
            }
        }

        int state() {
            if (stopped != 0) {
                return stopped;
            }
            return living > 0 ? RUNNING : ENDED;
        }

        void give(long number) {
            if (given < MOST_INPUT) {
                numbers[given] = number;
                given++;
            }
        }

        void forget() {
            living = 0;
            given = 0;
            read = 0;
            steps = 0;
            stopped = 0;
            written.empty();
        }

        void begin() {
            pointers[0].begin(Way.of(0, 0, 0));
            living = 1;
            read = 0;
            steps = 0;
            stopped = 0;
            written.empty();
        }

        /** How many signs fast may do now without looking for a block again. */
        int signsTogether(int left) {
            Pointer alone = pointers[0];
            if (living != 1 || isAct(alone.way, field.signs[Way.place(alone.way)])) {
                return 1;
            }
            Block straight = field.blocks.find(alone.way);
            if (straight == null) {
                straight = field.blocks.make(alone.way, field.signs);
            }
            if (straight == null || straight.size > left || straight.size + alone.depth >= MOST_NUMBERS) {
                return 1;
            }
            return straight.size;
        }

        void advance() {
            int before = living;
            int k = 0;
            for (int done = 0; done < before; done++) {
                Pointer doing = pointers[k];
                char sign = field.signs[Way.place(doing.way)];
                int outcome = isAct(doing.way, sign) ? act(doing, sign) : pass(doing, sign);
                if (outcome == GOES_ON) {
                    k++;
                } else if (outcome == ENDS) {
                    remove(k);
                } else {
                    stopped = outcome;
                    return;
                }
            }
            steps++;
        }

        void remove(int k) {
            Pointer gone = pointers[k];
            for (int later = k + 1; later < living; later++) {
                pointers[later - 1] = pointers[later];
            }
            living--;
            pointers[living] = gone;
        }

        // A sign that would stop the run is found out before anything is popped or read for it.

        int pass(Pointer doing, char sign) {
            if (pushesMore(doing.way, sign) && doing.isFull()) {
                return STACK_STOP;
            }
            if (Way.quotes(doing.way) == 0) {
                reckon(doing, sign);
            } else if (sign != '"') {
                doing.push(sign);
            }
            doing.way = Way.behind(doing.way, sign);
            return GOES_ON;
        }

        static boolean pushesMore(int way, char sign) {
            if (Way.quotes(way) == 1) {
                return sign != '"';
            }
            return sign >= '0' && sign <= '9' || sign == 'c';
        }

        void reckon(Pointer doing, char sign) {
            if (sign >= '0' && sign <= '9') {
                doing.push(sign - '0');
                return;
            }
            switch (sign) {
                case '+':
                case '-':
                case '*':
                case 'd':
                case 'm':
                    join(doing, sign);
                    break;
                case 'c':
                    long twice = doing.pop();
                    doing.push(twice);
                    doing.push(twice);
                    break;
                case 's':
                    long upper = doing.pop();
                    long lower = doing.pop();
                    doing.push(upper);
                    doing.push(lower);
                    break;
                case 'x':
                    doing.pop();
                    break;
                case 'r':
                    long n = doing.pop();
                    doing.push(doing.fromTop(n));
                    break;
                case 'g':
                    doing.push(field.signs[popPlace(doing)]);
                    break;
                default:
                    break;
            }
        }

        static void join(Pointer doing, char sign) {
            long b = doing.pop();
            long a = doing.pop();
            switch (sign) {
                case '+':
                    doing.push(a + b);
                    break;
                case '-':
                    doing.push(a - b);
                    break;
                case '*':
                    doing.push(a * b);
                    break;
                case 'd':
                    doing.push(b == 0L ? 0L : a / b);
                    break;
                default:
                    doing.push(b == 0L ? 0L : a % b);
                    break;
            }
        }

        static int popPlace(Pointer doing) {
            long y = doing.pop();
            long x = doing.pop();
            return joinedPlace(x, y);
        }

        int act(Pointer doing, char sign) {
            switch (sign) {
                case '?':
                    return turn(doing);
                case 'n':
                    return writeNumber(doing);
                case 'b':
                    return writeCharacter(doing);
                case 'i':
                    return readNumber(doing);
                case 'w':
                    return writeSign(doing);
                case 'C':
                    return goAway(doing);
                case 'R':
                    return goBack(doing);
                case 'f':
                    return fork(doing);
                default:
                    return ENDS;
            }
        }

        static int turn(Pointer doing) {
            long a = doing.pop();
            if (a > 0L) {
                doing.way = Way.turned(doing.way, Way.RIGHT);
            } else if (a < 0L) {
                doing.way = Way.turned(doing.way, Way.LEFT);
            }
            doing.way = Way.ahead(doing.way);
            return GOES_ON;
        }

        int writeNumber(Pointer doing) {
            int first = spell(doing.fromTop(0L));
            if (!written.hasRoom(MOST_DIGITS - first + 1)) {
                return OUTPUT_STOP;
            }
            doing.pop();
            for (int k = first; k < MOST_DIGITS; k++) {
                written.add(digits[k]);
            }
            written.add(BLANK);
            doing.way = Way.ahead(doing.way);
            return GOES_ON;
        }

        /** Spells a number at the end of the row of digits: where it begins there. */
        int spell(long number) {
            int first = MOST_DIGITS;
            long rest = number;
            do {
                // The least number has no opposite, so each digit is made positive by itself.
                long digit = Math.abs(rest % 10L);
                first--;
                digits[first] = (char) ('0' + digit);
                rest = rest / 10L;
            } while (rest != 0L && first > 1);
            if (number < 0L) {
                first--;
                digits[first] = '-';
            }
            return first;
        }

        int writeCharacter(Pointer doing) {
            if (!written.hasRoom(1)) {
                return OUTPUT_STOP;
            }
            written.add(signOf(doing.pop()));
            doing.way = Way.ahead(doing.way);
            return GOES_ON;
        }

        int readNumber(Pointer doing) {
            if (doing.isFull()) {
                return STACK_STOP;
            }
            if (read < given) {
                doing.push(numbers[read]);
                read++;
            } else {
                doing.push(-1L);
            }
            doing.way = Way.ahead(doing.way);
            return GOES_ON;
        }

        int writeSign(Pointer doing) {
            int place = popPlace(doing);
            field.write(place, signOf(doing.pop()));
            doing.way = Way.ahead(doing.way);
            return GOES_ON;
        }

        static int goAway(Pointer doing) {
            if (doing.returning == MOST_RETURNS) {
                return STACK_STOP;
            }
            int place = popPlace(doing);
            doing.returns[doing.returning] = Way.ahead(doing.way);
            doing.returning++;
            doing.way = Way.of(place, Way.direction(doing.way), 0);
            return GOES_ON;
        }

        static int goBack(Pointer doing) {
            if (doing.returning == 0) {
                return ENDS;
            }
            doing.returning--;
            doing.way = doing.returns[doing.returning];
            return GOES_ON;
        }

        int fork(Pointer doing) {
            long a = doing.pop();
            if (living < MOST_POINTERS) {
                Pointer begun = pointers[living];
                living++;
                begun.begin(Way.ahead(Way.turned(doing.way, Way.LEFT)));
                begun.push(a);
            }
            doing.way = Way.ahead(doing.way);
            return GOES_ON;
        }
    }

    /** All ways that pointers may come from the first place on, for the places that are lost. */
    private static final class Search {
        final int[] marks = new int[PLACES];
        final int[] found = new int[WAYS];
        int size;

        void explore(char[] signs) {
            for (int place = 0; place < PLACES; place++) {
                marks[place] = 0;
            }
            size = 0;
            reach(Way.of(0, 0, 0));
            for (int k = 0; k < WAYS && k < size; k++) {
                follow(found[k], signs[Way.place(found[k])]);
            }
        }

        boolean cameTo(int place) {
            return marks[place] != 0;
        }

        void reach(int way) {
            int place = Way.place(way);
            int mark = 1 << (way & 7);
            if ((marks[place] & mark) == 0 && size < WAYS) {
                marks[place] |= mark;
                found[size] = way;
                size++;
            }
        }

        void follow(int way, char sign) {
            boolean act = isAct(way, sign);
            if (act && (sign == 'R' || sign == '@')) {
                return;
            }
            if (act && (sign == '?' || sign == 'f')) {
                reach(Way.ahead(Way.turned(way, Way.LEFT)));
            }
            if (act && sign == '?') {
                reach(Way.ahead(Way.turned(way, Way.RIGHT)));
            }
            reach(Way.behind(way, sign));
        }
    }
}

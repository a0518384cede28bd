import java.util.Arrays;

/** The basket of a writing machine, whose bars rise, print, fall back and jam. */
public final class TypeBars {
    public static final int NONE = -1000000, BAD = -1000001, STATE = -1000002, FULL = -1000003;

    private static final int FINDINGS = -1000010, FAULTS = -1000100;
    private static final int NULL_FOUND = 1, PLACE_FOUND = 2, KIND_FOUND = 3, SIZE_FOUND = 4, STORE_FOUND = 5;

    private static final int MOST_ROWS = 8, MOST_ITEMS = 40, LANES = 3;
    private static final int MOST_BYTES = 60;
    private static final int MOST_BARS = 8, MOST_RISE = 4, COLUMNS = 20;
    private static final int MOST_ACTS = 24, LAST_TICK = 9999;
    private static final int IMAGES = 2;

    private static final int FORESEEN = 60, LONGEST_WAIT = 20, SETTLING = 12;
    private static final int LONGEST_WORD = 12, SLOWEST = 12, LATEST_TIME = 9;
    private static final int LARGEST_SEED = 999999;
    private static final long FACTOR = 16807L, MODULUS = 2147483647L;

    private static final int PLAIN = 1, HEAVY = 2, SPRUNG = 3, DEAD = 4, BLANK = 5, LAST_KIND = 5;
    /** By kind: the kind that it is, too; BAR itself (0) is nothing else. */
    private static final int[] PARENT = {-1, 0, 1, 1, 0, 4};

    private final Row[] rows = new Row[MOST_ROWS];
    private final Tape tape = new Tape();
    private final Basket now = new Basket();
    private final Basket read = new Basket();
    private final Acts acts = new Acts();
    private final Foretelling foretelling = new Foretelling();
    private final Basket[] images = new Basket[IMAGES];
    private final Asking asking = new Asking();
    private int latestFault;
    private int latestFinding;

    public TypeBars() {
        for (int i = 0; i < MOST_ROWS; i++) {
            rows[i] = new Row();
        }
        for (int k = 0; k < IMAGES; k++) {
            images[k] = new Basket();
        }
    }

    // ---- rows

    public int row(int row, int lane, int n) {
        if (!isRow(row) || !within(lane, 0, LANES - 1) || n > MOST_ITEMS) {
            return BAD;
        }
        if (n < 0) {
            return found(SIZE_FOUND);
        }
        rows[row].make(lane, n);
        return fine(n);
    }

    public int set(int row, int i, int v) {
        if (!isRow(row)) {
            return BAD;
        }
        int finding = findingOf(row, i, 1);
        if (finding != 0) {
            return found(finding);
        }
        return fine(rows[row].put(i, v));
    }

    public int copy(int a, int i, int b, int j, int n) {
        if (!isRow(a) || !isRow(b)) {
            return BAD;
        }
        Row from = rows[a];
        Row to = rows[b];
        if (from.missing || to.missing) {
            return found(NULL_FOUND);
        }
        if (from.lane != to.lane) {
            return found(STORE_FOUND);
        }
        if (!from.has(i, n) || !to.has(j, n)) {
            return found(PLACE_FOUND);
        }
        System.arraycopy(from.items, i, to.items, j, n);
        return fine(n);
    }

    public int drop(int row) {
        if (!isRow(row)) {
            return BAD;
        }
        if (rows[row].missing) {
            return found(NULL_FOUND);
        }
        rows[row].missing = true;
        return fine(rows[row].length);
    }

    // ---- baskets, acts

    public int feed(int letter) {
        if (!within(letter, 0, 255)) {
            return BAD;
        }
        return tape.take(letter) ? tape.length : FULL;
    }

    public int basket() {
        int fault = tape.readInto(read);
        if (fault != 0) {
            latestFault = fault;
            return FAULTS - tape.reading;
        }
        now.become(read);
        acts.forget();
        return now.bars;
    }

    public int fault() {
        return latestFault;
    }

    public int ticks(int n) {
        if (now.bars == 0) {
            return STATE;
        }
        if (!within(n, 1, MOST_ACTS)) {
            return BAD;
        }
        if (now.tick + n > LAST_TICK) {
            return FULL;
        }
        for (int i = 0; i < n; i++) {
            acts.keep(now);
            now.pass();
        }
        return now.hanging;
    }

    public int key(int bar) {
        if (!now.has(bar)) {
            return BAD;
        }
        if (!now.rests(bar)) {
            return STATE;
        }
        acts.keep(now);
        now.press(bar);
        return now.moving;
    }

    public int free() {
        if (now.hanging == 0) {
            return STATE;
        }
        int freed = Integer.bitCount(now.hanging);
        acts.keep(now);
        now.layDown(now.hanging);
        return freed;
    }

    public int back() {
        if (now.bars == 0) {
            return STATE;
        }
        int column = now.column;
        acts.keep(now);
        now.bringBack();
        return column;
    }

    public int swap(int bar, int other) {
        if (!now.has(bar) || !now.has(other) || bar == other) {
            return BAD;
        }
        acts.keep(now);
        now.exchange(bar, other);
        return now.place[bar];
    }

    public int undo() {
        if (acts.kept == 0) {
            return STATE;
        }
        acts.takeBack(now);
        return acts.kept;
    }

    public int bar(int bar, int what) {
        if (!now.has(bar)) {
            return BAD;
        }
        switch (what) {
            case 0:
                return now.rise[bar];
            case 1:
                return now.place[bar];
            case 2:
                return now.height[bar];
            case 3:
                return now.moves(bar) ? now.time[bar] : NONE;
            case 4:
                return now.hangs(bar) ? 1 : 0;
            case 5:
                return now.top[bar];
            default:
                return BAD;
        }
    }

    public int paper(int column) {
        if (!within(column, 0, COLUMNS - 1)) {
            return BAD;
        }
        int printed = now.sheet[column];
        return printed == 0 ? NONE : printed - 1;
    }

    // ---- foretold

    public int height(int bar, int d) {
        if (!now.has(bar) || !within(d, 0, FORESEEN)) {
            return BAD;
        }
        return foretelling.ticksOn(now, d).height[bar];
    }

    public int later(int d, int what) {
        if (now.bars == 0) {
            return STATE;
        }
        if (!within(d, 0, FORESEEN) || !within(what, 0, 2)) {
            return BAD;
        }
        Basket ahead = foretelling.ticksOn(now, d);
        if (what == 0) {
            return ahead.hanging;
        }
        return what == 1 ? ahead.moving : ahead.column;
    }

    public int jam(int what) {
        if (now.bars == 0) {
            return STATE;
        }
        if (!within(what, 0, 1)) {
            return BAD;
        }
        int behind = foretelling.ticksToJam(now);
        return behind == NONE || what == 0 ? behind : foretelling.ahead.hanging;
    }

    public int waits(int bar) {
        if (!now.has(bar)) {
            return BAD;
        }
        return foretelling.leastWait(now, bar);
    }

    public int pace(int row, int i, int n) {
        if (!isRow(row) || !within(n, 1, LONGEST_WORD)) {
            return BAD;
        }
        if (now.bars == 0) {
            return STATE;
        }
        int finding = findingOf(row, i, n);
        if (finding != 0) {
            return found(finding);
        }
        foretelling.hear(rows[row], i, n);
        return fine(foretelling.paceAsItIs(now));
    }

    public int better(int row, int i, int n, int what) {
        if (!isRow(row) || !within(n, 1, LONGEST_WORD) || !within(what, 0, 1)) {
            return BAD;
        }
        if (now.bars == 0) {
            return STATE;
        }
        int finding = findingOf(row, i, n);
        if (finding != 0) {
            return found(finding);
        }
        foretelling.hear(rows[row], i, n);
        int swap = foretelling.bestSwap(now);
        return fine(swap == NONE || what == 0 ? swap : foretelling.bestPace);
    }

    public int fits(int bar, int row, int i, int n, int what) {
        if (!now.has(bar) || !isRow(row) || !within(n, 1, LONGEST_WORD) || !within(what, 0, 3)) {
            return BAD;
        }
        int finding = findingOf(row, i, n);
        if (finding != 0) {
            return found(finding);
        }
        foretelling.hear(rows[row], i, n);
        return fine(foretelling.fitting(now, bar, what));
    }

    public int chance(int n, int c, int what) {
        if (now.bars == 0) {
            return STATE;
        }
        if (!within(n, 0, FORESEEN) || !within(c, 0, 10) || !within(what, 0, 1)) {
            return BAD;
        }
        long above = foretelling.waysClear(now, n, c);
        long below = power(10, Integer.bitCount(now.moving));
        long common = commonDivisor(above, below);
        if (common == 0) {
            return NONE;
        }
        return (int) ((what == 0 ? above : below) / common);
    }

    public int drawn(int n, int seed, int what) {
        if (now.bars == 0) {
            return STATE;
        }
        if (!within(n, 0, FORESEEN) || !within(seed, 1, LARGEST_SEED) || !within(what, 0, 1)) {
            return BAD;
        }
        int printed = foretelling.printedByDraws(now, n, seed);
        return what == 0 ? printed : Integer.bitCount(foretelling.ahead.hanging);
    }

    public int image(int k) {
        if (!within(k, 0, IMAGES - 1)) {
            return BAD;
        }
        if (now.bars == 0) {
            return STATE;
        }
        images[k].become(now);
        return 1;
    }

    public int restore(int k) {
        if (!within(k, 0, IMAGES - 1)) {
            return BAD;
        }
        if (images[k].bars == 0) {
            return STATE;
        }
        now.become(images[k]);
        acts.forget();
        return 1;
    }

    // ---- asked

    public int kind(int bar) {
        return now.has(bar) ? now.sort[bar] : BAD;
    }

    public int as(int bar, int kind) {
        if (!now.has(bar) || !within(kind, 0, LAST_KIND)) {
            return BAD;
        }
        return isA(now.sort[bar], kind) ? fine(bar) : found(KIND_FOUND);
    }

    public int ask(int bar, int what) {
        if (!now.has(bar) || !within(what, 0, 1)) {
            return BAD;
        }
        return what == 0 ? asking.sizeOf(now, bar) : asking.markOf(now, bar);
    }

    public int trace(int i) {
        return within(i, 0, asking.left - 1) ? asking.bodies[i] : NONE;
    }

    public int count(int what) {
        switch (what) {
            case 0:
                return countRows();
            case 1:
                return now.bars;
            case 2:
                return now.tick;
            case 3:
                return now.column;
            case 4:
                return now.moving;
            case 5:
                return now.hanging;
            case 6:
                return now.columnsPrinted();
            case 7:
                return acts.kept;
            case 8:
                return tape.length;
            default:
                return BAD;
        }
    }

    public int status() {
        return latestFinding;
    }

    // ---- helpers

    private int found(int finding) {
        latestFinding = finding;
        return FINDINGS - finding;
    }

    private int fine(int answer) {
        latestFinding = 0;
        return answer;
    }

    private int findingOf(int row, int i, int n) {
        if (rows[row].missing) {
            return NULL_FOUND;
        }
        return rows[row].has(i, n) ? 0 : PLACE_FOUND;
    }

    private int countRows() {
        int there = 0;
        for (int i = 0; i < MOST_ROWS; i++) {
            if (!rows[i].missing) {
                there++;
            }
        }
        return there;
    }

    private static boolean isRow(int row) {
        return within(row, 0, MOST_ROWS - 1);
    }

    private static boolean within(int v, int least, int most) {
        return v >= least && v <= most;
    }

    private static boolean isA(int sort, int kind) {
        int is = sort;
        for (int step = 0; step <= LAST_KIND && is >= 0; step++) {
            if (is == kind) {
                return true;
            }
            is = PARENT[is];
        }
        return false;
    }

    private static long power(int base, int times) {
        long product = 1;
        for (int i = 0; i < times; i++) {
            product = product * base;
        }
        return product;
    }

    private static long commonDivisor(long a, long b) {
        long larger = a;
        long smaller = b;
        // Two steps halve the numbers, and they have fewer than 64 bits.
        for (int step = 0; step < 128 && smaller != 0; step++) {
            long rest = larger % smaller;
            larger = smaller;
            smaller = rest;
        }
        return larger;
    }

    /** Items of one lane; its room is made once and used again. */
    private static final class Row {
        final int[] items = new int[MOST_ITEMS];
        boolean missing = true;
        int lane;
        int length;

        void make(int newLane, int n) {
            missing = false;
            lane = newLane;
            length = n;
            Arrays.fill(items, 0);
        }

        boolean has(int i, int n) {
            // The difference, as the sum of two large numbers would wrap around.
            return i >= 0 && n >= 0 && i <= length - n;
        }

        int put(int i, int v) {
            int kept = v;
            if (lane == 0) {
                kept = (byte) v;
            } else if (lane == 1) {
                kept = (short) v;
            }
            items[i] = kept;
            return kept;
        }
    }

    /** The text of a basket, byte by byte, and its reading. */
    private static final class Tape {
        final int[] bytes = new int[MOST_BYTES];
        int length;
        /** Where the reading stands: behind a fault, at its token. */
        int reading;

        boolean take(int letter) {
            if (length >= MOST_BYTES) {
                return false;
            }
            bytes[length] = letter;
            length++;
            return true;
        }

        /** The number of the first fault, or 0; the tape is empty then. */
        int readInto(Basket basket) {
            basket.clear();
            reading = 0;
            int fault = readBar(basket);
            for (int more = 0; more < MOST_BARS && fault == 0 && reading < length; more++) {
                fault = readBar(basket);
            }
            length = 0;
            return fault;
        }

        private int readBar(Basket basket) {
            int sort = sortOf(byteAt(reading));
            if (sort == 0) {
                return 1;
            }
            if (basket.bars >= MOST_BARS) {
                return 3;
            }
            reading++;
            int figures = figuresHere();
            if (figures < 1 || figures > 2) {
                return 1;
            }
            int rise = numberHere(figures);
            if (!within(rise, 1, MOST_RISE)) {
                return 2;
            }
            reading += figures;
            if (byteAt(reading) != ';') {
                return 1;
            }
            reading++;
            basket.addBar(sort, rise);
            return 0;
        }

        /** Behind the end there is -1, which is no byte. */
        private int byteAt(int i) {
            return within(i, 0, length - 1) ? bytes[i] : -1;
        }

        private int figuresHere() {
            int figures = 0;
            while (figures < MOST_BYTES && within(byteAt(reading + figures), '0', '9')) {
                figures++;
            }
            return figures;
        }

        private int numberHere(int figures) {
            int number = 0;
            for (int i = 0; i < figures; i++) {
                number = number * 10 + byteAt(reading + i) - '0';
            }
            return number;
        }

        private static int sortOf(int letter) {
            switch (letter) {
                case 'p':
                    return PLAIN;
                case 'h':
                    return HEAVY;
                case 's':
                    return SPRUNG;
                case 'd':
                    return DEAD;
                case 'b':
                    return BLANK;
                default:
                    return 0;
            }
        }
    }

    /** All that an act changes and an image keeps; without bars it is no basket. */
    private static final class Basket {
        final int[] sort = new int[MOST_BARS];
        final int[] rise = new int[MOST_BARS];
        final int[] top = new int[MOST_BARS];
        final int[] place = new int[MOST_BARS];
        /** By place: the bar that stands there. */
        final int[] at = new int[MOST_BARS];
        final int[] time = new int[MOST_BARS];
        final int[] height = new int[MOST_BARS];
        /** By column: 1 more than the number printed there, 0 for nothing. */
        final int[] sheet = new int[COLUMNS];
        int bars;
        int moving;
        int hanging;
        int column;
        int tick;

        void clear() {
            bars = 0;
            moving = 0;
            hanging = 0;
            tick = 0;
            bringBack();
        }

        void addBar(int newSort, int newRise) {
            if (bars >= MOST_BARS) {
                return;
            }
            shape(bars, newSort, newRise);
            place[bars] = bars;
            at[bars] = bars;
            time[bars] = 0;
            height[bars] = 0;
            bars++;
        }

        void become(Basket other) {
            System.arraycopy(other.sort, 0, sort, 0, MOST_BARS);
            System.arraycopy(other.rise, 0, rise, 0, MOST_BARS);
            System.arraycopy(other.top, 0, top, 0, MOST_BARS);
            System.arraycopy(other.place, 0, place, 0, MOST_BARS);
            System.arraycopy(other.at, 0, at, 0, MOST_BARS);
            System.arraycopy(other.time, 0, time, 0, MOST_BARS);
            System.arraycopy(other.height, 0, height, 0, MOST_BARS);
            System.arraycopy(other.sheet, 0, sheet, 0, COLUMNS);
            bars = other.bars;
            moving = other.moving;
            hanging = other.hanging;
            column = other.column;
            tick = other.tick;
        }

        boolean has(int b) {
            return b >= 0 && b < bars;
        }

        boolean moves(int b) {
            return (moving & 1 << b) != 0;
        }

        boolean hangs(int b) {
            return (hanging & 1 << b) != 0;
        }

        /** Numbers of no bars never rest. */
        boolean rests(int b) {
            return has(b) && ((moving | hanging) & 1 << b) == 0;
        }

        void shape(int b, int newSort, int newRise) {
            sort[b] = newSort;
            rise[b] = newRise;
            top[b] = newSort == HEAVY ? newRise + 1 : newRise;
        }

        void press(int b) {
            startAt(b, 0);
        }

        /** The height follows with the next tick. */
        void startAt(int b, int sincePressed) {
            hanging &= ~(1 << b);
            moving |= 1 << b;
            time[b] = sincePressed;
            height[b] = 0;
        }

        void layDown(int some) {
            for (int b = 0; b < bars; b++) {
                if ((some & 1 << b) != 0) {
                    height[b] = 0;
                }
            }
            moving &= ~some;
            hanging &= ~some;
        }

        void bringBack() {
            column = 0;
            Arrays.fill(sheet, 0);
        }

        void exchange(int a, int b) {
            int placeOfA = place[a];
            place[a] = place[b];
            place[b] = placeOfA;
            at[place[a]] = a;
            at[place[b]] = b;
        }

        /** A tick; answers how many bars printed. */
        int pass() {
            riseAndFall();
            int met = meeting();
            hanging |= met;
            moving &= ~met;
            tick++;
            return print();
        }

        /** Once nothing moves, a tick changes but its own count, which no one asks of what is foretold. */
        void foresee(int n) {
            for (int i = 0; i < n && moving != 0; i++) {
                pass();
            }
        }

        private void riseAndFall() {
            for (int b = 0; b < bars; b++) {
                if (moves(b)) {
                    time[b]++;
                    height[b] = Math.max(0, heightByTime(b));
                    if (height[b] == 0) {
                        moving &= ~(1 << b);
                    }
                }
            }
        }

        private int heightByTime(int b) {
            int beyond = time[b] - top[b];
            if (beyond <= 0) {
                return time[b];
            }
            return sort[b] == SPRUNG ? top[b] - 2 * beyond : top[b] - beyond;
        }

        private int meeting() {
            int tops = 0;
            for (int b = 0; b < bars; b++) {
                if (height[b] == top[b]) {
                    tops |= 1 << b;
                }
            }
            boolean meetAbove = (tops & moving) != 0 && Integer.bitCount(tops) > 1;
            int met = meetAbove ? tops : 0;
            for (int p = 1; p < bars; p++) {
                int two = 1 << at[p - 1] | 1 << at[p];
                int level = height[at[p]];
                if (level > 0 && level == height[at[p - 1]] && (two & moving) != 0) {
                    met |= two;
                }
            }
            return met;
        }

        private int print() {
            int printed = 0;
            for (int b = 0; b < bars; b++) {
                if (moves(b) && height[b] == top[b]) {
                    printed++;
                    strike(b);
                }
            }
            return printed;
        }

        private void strike(int b) {
            if (column >= COLUMNS) {
                return;
            }
            if (sort[b] != BLANK) {
                sheet[column] = b + 1;
            }
            if (sort[b] != DEAD) {
                column++;
            }
        }

        int columnsPrinted() {
            int printed = 0;
            for (int c = 0; c < COLUMNS; c++) {
                if (sheet[c] != 0) {
                    printed++;
                }
            }
            return printed;
        }
    }

    /** The baskets as they were ahead of the latest acts, in a ring. */
    private static final class Acts {
        private final Basket[] before = new Basket[MOST_ACTS];
        private int next;
        int kept;

        Acts() {
            for (int i = 0; i < MOST_ACTS; i++) {
                before[i] = new Basket();
            }
        }

        void keep(Basket basket) {
            before[next].become(basket);
            next = (next + 1) % MOST_ACTS;
            kept = Math.min(kept + 1, MOST_ACTS);
        }

        void takeBack(Basket basket) {
            next = (next + MOST_ACTS - 1) % MOST_ACTS;
            kept = Math.max(kept - 1, 0);
            basket.become(before[next]);
        }

        void forget() {
            kept = 0;
        }
    }

    /** What would come, played out on baskets of its own. */
    private static final class Foretelling {
        final Basket ahead = new Basket();
        private final Basket trial = new Basket();
        private final int[] word = new int[LONGEST_WORD];
        private int wordLength;
        int bestPace;

        Basket ticksOn(Basket now, int d) {
            ahead.become(now);
            ahead.foresee(d);
            return ahead;
        }

        int ticksToJam(Basket now) {
            ahead.become(now);
            for (int d = 0; d <= FORESEEN; d++) {
                if (ahead.hanging != 0) {
                    return d;
                }
                ahead.pass();
            }
            return NONE;
        }

        int leastWait(Basket now, int b) {
            ahead.become(now);
            for (int wait = 0; wait <= LONGEST_WAIT; wait++) {
                if (ahead.rests(b) && staysClear(b)) {
                    return wait;
                }
                ahead.pass();
            }
            return NONE;
        }

        private boolean staysClear(int b) {
            trial.become(ahead);
            trial.press(b);
            trial.foresee(SETTLING);
            return trial.hanging == ahead.hanging;
        }

        /** The items that the next question is about. */
        void hear(Row row, int from, int n) {
            wordLength = 0;
            for (int k = 0; k < n && k < LONGEST_WORD && row.has(from + k, 1); k++) {
                word[k] = row.items[from + k];
                wordLength = k + 1;
            }
        }

        int paceAsItIs(Basket now) {
            ahead.become(now);
            return leastPace(SLOWEST);
        }

        int bestSwap(Basket now) {
            int best = NONE;
            ahead.become(now);
            int asItIs = leastPace(SLOWEST);
            bestPace = asItIs == NONE ? SLOWEST + 1 : asItIs;
            for (int a = 0; a < now.bars; a++) {
                for (int b = a + 1; b < now.bars; b++) {
                    ahead.become(now);
                    ahead.exchange(a, b);
                    int pace = leastPace(bestPace - 1);
                    if (pace != NONE) {
                        bestPace = pace;
                        best = 10 * a + b;
                    }
                }
            }
            return best;
        }

        private int leastPace(int slowest) {
            for (int pace = 1; pace <= slowest; pace++) {
                if (goesAt(pace)) {
                    return pace;
                }
            }
            return NONE;
        }

        private boolean goesAt(int pace) {
            trial.become(ahead);
            for (int k = 0; k < wordLength; k++) {
                if (k > 0) {
                    trial.foresee(pace);
                }
                // What hangs stays so: no tick in between need be looked at.
                if (trial.hanging != ahead.hanging || !trial.rests(word[k])) {
                    return false;
                }
                trial.press(word[k]);
            }
            trial.foresee(SETTLING);
            return trial.hanging == ahead.hanging;
        }

        /** What may be so (0 kinds, 1 rises, 2 times, 3 places), by the heights heard. */
        int fitting(Basket now, int b, int what) {
            int least = what < 2 ? 1 : 0;
            int most = mostOf(what, now.bars);
            int fit = 0;
            for (int v = least; v <= most; v++) {
                ahead.become(now);
                suppose(b, what, v);
                if (risesAsHeard(b)) {
                    fit |= 1 << v;
                }
            }
            return fit;
        }

        private static int mostOf(int what, int bars) {
            switch (what) {
                case 0:
                    return LAST_KIND;
                case 1:
                    return MOST_RISE;
                case 2:
                    return LATEST_TIME;
                default:
                    return bars - 1;
            }
        }

        private void suppose(int b, int what, int v) {
            switch (what) {
                case 0:
                    ahead.shape(b, v, ahead.rise[b]);
                    break;
                case 1:
                    ahead.shape(b, ahead.sort[b], v);
                    break;
                case 2:
                    ahead.startAt(b, v);
                    break;
                default:
                    ahead.exchange(b, ahead.at[v]);
                    break;
            }
        }

        private boolean risesAsHeard(int b) {
            for (int k = 0; k < wordLength; k++) {
                ahead.pass();
                if (ahead.height[b] != word[k]) {
                    return false;
                }
            }
            return true;
        }

        /** Of 10 to the power of how many move: by how many ways nothing hangs. */
        long waysClear(Basket now, int n, int c) {
            long ways = 0;
            for (int fallen = 0; fallen <= now.moving; fallen++) {
                if ((fallen & ~now.moving) == 0) {
                    ahead.become(now);
                    ahead.layDown(fallen);
                    int others = Integer.bitCount(ahead.moving);
                    ahead.foresee(n);
                    if (ahead.hanging == 0) {
                        ways += power(c, Integer.bitCount(fallen)) * power(10 - c, others);
                    }
                }
            }
            return ways;
        }

        int printedByDraws(Basket now, int n, int seed) {
            ahead.become(now);
            if (now.bars <= 0) {
                return 0;
            }
            int printed = 0;
            long x = seed;
            for (int i = 0; i < n; i++) {
                x = x * FACTOR % MODULUS;
                if (x % 11 == 0) {
                    ahead.layDown(ahead.hanging);
                }
                int b = (int) (x % now.bars);
                if (x % 3 == 0 && ahead.rests(b)) {
                    ahead.press(b);
                }
                printed += ahead.pass();
            }
            return printed;
        }
    }

    /** The asks of bars, and the trace of the bodies that began. */
    private static final class Asking {
        private static final int MOST_LEFT = 16, DEEPEST = 16;
        /** By kind: the body that begins, its own, the nearest kind's or the lent one. */
        private static final int[] SIZE_BODY = {10, 11, 12, 11, 13, 14};
        private static final int[] MARK_BODY = {20, 21, 24, 22, 23, 23};

        final int[] bodies = new int[MOST_LEFT];
        int left;

        int sizeOf(Basket basket, int b) {
            left = 0;
            return give(SIZE_BODY[basket.sort[b]], basket, b, 0);
        }

        int markOf(Basket basket, int b) {
            left = 0;
            return give(MARK_BODY[basket.sort[b]], basket, b, 0);
        }

        private int give(int body, Basket basket, int b, int depth) {
            if (depth > DEEPEST) {
                return 0;
            }
            leave(body);
            int deeper = depth + 1;
            int sort = basket.sort[b];
            switch (body) {
                case 10:
                    return basket.rise[b];
                case 11:
                    return give(10, basket, b, deeper) + give(MARK_BODY[sort], basket, b, deeper);
                case 12:
                    return 0 - give(11, basket, b, deeper);
                case 13:
                    return give(10, basket, b, deeper) - 100;
                case 14:
                    return 2 * give(13, basket, b, deeper);
                case 20:
                    return b;
                case 21:
                    return give(20, basket, b, deeper) + basket.height[b];
                case 22:
                    return give(21, basket, b, deeper) - 1000;
                case 23:
                    return give(20, basket, b, deeper) - give(SIZE_BODY[sort], basket, b, deeper);
                case 24:
                    return 2 * give(21, basket, b, deeper);
                default:
                    return 0;
            }
        }

        private void leave(int body) {
            if (left < MOST_LEFT) {
                bodies[left] = body;
                left++;
            }
        }
    }
}

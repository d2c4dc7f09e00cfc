import java.util.Arrays;

/** Forms of two letters equal to a told number; ../shared/DOC.md says what each call promises. */
public final class TwoLetterForms {
    public static final int NONE = -1, BAD = -2, STATE = -3, FULL = -4;
    public static final long NO = Long.MIN_VALUE;

    private static final int NOT_AS_MANY = -5;
    private static final int NOTHING = -11, CAST = -12, PLACE = -13, SIZE = -14;

    private static final int LEAST_DEGREE = 2, MOST_DEGREE = 4;
    private static final int MOST_NUMBER = 99, MOST_M = 9999, MOST_REACH = 40, MOST_TURN = 9;
    private static final int MOST_VALUE_AT = 999, MOST_SEEN_AT = 9, MOST_SIGN = 127;
    private static final int MOST_SEEN = 4, MOST_EVENTS = 8, MOST_BOOK = 8, MOST_TAPE = 60;
    private static final int SEEN_NONE = -100, EMPTY_ROWS = -1, FIRST_FAULT = -10;
    private static final int NUMBER_SHIFT = 100, M_SHIFT = 10000, UNIT_SHIFT = 10;

    private static final int[] PRIMES = {2, 3, 5, 7, 11, 13};

    private static final int BYTES = 0, SHORTS = 1, INTS = 2, BOOLEANS = 4, NO_SORT = -1;

    private final State now = new State();
    private final State kept = new State();
    private boolean imageTaken = false;

    // What is asked must change nothing, so EVENTS and FITS are tried on a copy.
    private final Equation tried = new Equation();

    private final Answers answers = new Answers();
    private final Units units = new Units();
    private final Parts parts = new Parts();
    private final SetUp text = new SetUp();
    private final Tape[] tapes = new Tape[6];

    public TwoLetterForms() {
        for (int i = 0; i < tapes.length; i++) {
            tapes[i] = new Tape();
        }
    }

    // ---- the form

    public int degree(int d) {
        if (!between(d, LEAST_DEGREE, MOST_DEGREE)) return BAD;
        int was = now.equation.form.degree;
        now.equation.form.clear(d);
        return was;
    }

    public int number(int i, int a) {
        Form form = now.equation.form;
        if (!form.has(i)) return NONE;
        if (!between(a, -MOST_NUMBER, MOST_NUMBER)) return BAD;
        int was = form.get(i);
        form.set(i, a);
        return was + NUMBER_SHIFT;
    }

    public int equal(int m) {
        if (!between(m, -MOST_M, MOST_M)) return BAD;
        int was = now.equation.m;
        now.equation.m = m;
        return was + M_SHIFT;
    }

    public int window(int b) {
        if (!between(b, 1, MOST_REACH)) return BAD;
        int was = now.equation.b;
        now.equation.b = b;
        return was;
    }

    public int move(int move) {
        if (!Form.isMove(move)) return NONE;
        return now.equation.form.moveBy(move) ? 1 : STATE;
    }

    public int turn(int u, int v, int w, int z) {
        if (!isTurn(u) || !isTurn(v) || !isTurn(w) || !isTurn(z)) return BAD;
        return now.equation.form.turnBy(u, v, w, z) ? 1 : STATE;
    }

    public int feed(int sign) {
        if (!between(sign, 0, MOST_SIGN)) return BAD;
        return text.add(sign) ? text.size : FULL;
    }

    public int read() {
        int fault = text.findFault();
        text.size = 0;
        if (fault != SetUp.NO_FAULT) return FIRST_FAULT - fault;
        int done = 0;
        for (int k = 0; k < text.clauses.size; k++) {
            if (clauseAnswer(k) >= 0) done++;
        }
        return done;
    }

    // ---- what is told

    public int of(int i) {
        Form form = now.equation.form;
        return form.has(i) ? form.get(i) + NUMBER_SHIFT : NONE;
    }

    public int told(int what) {
        switch (what) {
            case 0: return now.equation.form.degree;
            case 1: return now.equation.m + M_SHIFT;
            case 2: return now.equation.b;
            case 3: return answersNow().size;
            case 4: return unitsNow().size;
            case 5: return answersInFamilies().families;
            case 6: return partsNow().size;
            case 7: return convergentAnswers();
            default: return NONE;
        }
    }

    public long value(int x, int y) {
        if (!between(x, -MOST_VALUE_AT, MOST_VALUE_AT)) return NO;
        if (!between(y, -MOST_VALUE_AT, MOST_VALUE_AT)) return NO;
        return now.equation.form.at(x, y);
    }

    public int answer(int i, int what) {
        if (i < 0 || !between(what, 0, 2)) return NONE;
        Answers found = what == 2 ? answersInFamilies() : answersNow();
        int cell = found.cellOfAnswer(i);
        if (cell < 0) return NOT_AS_MANY;
        if (what == 0) return Answers.xOf(cell) + NUMBER_SHIFT;
        if (what == 1) return Answers.yOf(cell) + NUMBER_SHIFT;
        return found.labelAt(cell);
    }

    // ---- primes, reasons

    public int prime(int prime, int what) {
        if (prime < 0 || prime >= PRIMES.length) return NONE;
        int p = PRIMES[prime];
        switch (what) {
            case 0: return p;
            case 1: return Integer.bitCount(now.equation.form.remaindersBy(p));
            case 2: return now.equation.isBarredBy(p) ? 1 : 0;
            default: return NONE;
        }
    }

    public int reason(int i) {
        if (i < 0) return NONE;
        if (i > 2 || answersNow().size > 0) return NOT_AS_MANY;
        if (i == 0) return now.equation.b;
        int p = now.equation.firstBar();
        if (i == 1 || p == NOT_AS_MANY) return p;
        return Integer.bitCount(now.equation.form.remaindersBy(p));
    }

    // ---- units, parts

    public int unit(int i, int what) {
        if (i < 0 || !between(what, 0, 3)) return NONE;
        Units found = unitsNow();
        return i < found.size ? found.get(i, what) + UNIT_SHIFT : NOT_AS_MANY;
    }

    public int family(int i) {
        if (i < 0) return NONE;
        Answers found = answersInFamilies();
        return i < found.families ? found.sizeOfFamily(i) : NOT_AS_MANY;
    }

    public int part(int k) {
        if (k < 0) return NONE;
        Parts found = partsNow();
        return k < found.size ? found.get(k) : NOT_AS_MANY;
    }

    public long convergent(int k, int part) {
        if (k < 0 || !between(part, 0, 1)) return NO;
        Parts found = partsNow();
        if (k >= found.size) return NO;
        return part == 0 ? found.above(k) : found.below(k);
    }

    // ---- seen, odds

    public int see(int x, int y, int v) {
        if (x == SEEN_NONE) return now.seen.empty();
        if (!between(x, -MOST_SEEN_AT, MOST_SEEN_AT)) return BAD;
        if (!between(y, -MOST_SEEN_AT, MOST_SEEN_AT)) return BAD;
        if (!between(v, -MOST_M, MOST_M)) return BAD;
        return now.seen.add(x, y, v);
    }

    public int fits(int i, int what) {
        if (!now.equation.form.has(i) || !between(what, 0, 1)) return NONE;
        Form form = tried.form;
        form.copy(now.equation.form);
        int many = 0;
        int least = 0;
        for (int a = MOST_NUMBER; a >= -MOST_NUMBER; a--) {
            form.set(i, a);
            if (isAsSeen(form)) {
                many++;
                least = a + NUMBER_SHIFT;
            }
        }
        return what == 0 ? many : least;
    }

    public long odds(int part) {
        if (!between(part, 0, 1)) return NO;
        return lowest(now.equation.valuesAboveM(), now.equation.twos(), part);
    }

    public long mean(int part) {
        if (!between(part, 0, 1)) return NO;
        return lowest(now.equation.valuesTogether(), now.equation.twos(), part);
    }

    // ---- events, books

    public int event(int what, int n) {
        if (what == EMPTY_ROWS) return now.events.empty();
        if (!between(what, 0, 2)) return NONE;
        if (what == 0 && !now.equation.form.has(n)) return NONE;
        if (what == 1 && !Form.isMove(n)) return NONE;
        if (what == 2 && !between(n, -MOST_NUMBER, MOST_NUMBER)) return BAD;
        return now.events.add(what, n, 0);
    }

    public int after(int what) {
        if (!between(what, 0, 2)) return NONE;
        tryEvents();
        if (what == 0) return tried.howManyAnswers();
        if (what == 1) return tried.firstBar();
        units.look(tried.form);
        return units.size;
    }

    public int book(int i, int a) {
        if (i == EMPTY_ROWS) return now.book.empty();
        if (!now.equation.form.has(i)) return NONE;
        if (!between(a, -MOST_NUMBER, MOST_NUMBER)) return BAD;
        return now.book.add(i, a, 0);
    }

    public int looked() {
        Form form = now.equation.form;
        for (int k = 0; k < now.book.size; k++) {
            int i = now.book.first(k);
            if (!form.has(i) || form.get(i) != now.book.second(k)) return k;
        }
        return NOT_AS_MANY;
    }

    // ---- judging, the image, tapes

    public int judge(int tape, int i) {
        Tape row = tapeAt(tape);
        if (row == null) return NONE;
        if (!row.holdsNothing() && row.sort != SHORTS) return CAST;
        Form form = now.equation.form;
        for (int k = 0; k <= form.degree; k++) {
            // It can't wrap around: the place ahead is one of the row's.
            if (!row.has(i + k)) return NUMBER_SHIFT + k;
            if (row.get(i + k) != form.get(k)) return k;
        }
        return NOT_AS_MANY;
    }

    public int image() {
        kept.copy(now);
        imageTaken = true;
        return now.equation.form.degree;
    }

    public int undo() {
        if (!imageTaken) return STATE;
        now.copy(kept);
        return now.equation.form.degree;
    }

    public int count(int what) {
        switch (what) {
            case 0: return now.seen.size;
            case 1: return now.events.size;
            case 2: return now.book.size;
            case 3: return text.size;
            default: return BAD;
        }
    }

    public int tape(int tape, int sort, int n) {
        Tape row = tapeAt(tape);
        if (row == null) return NONE;
        if (sort == NO_SORT) {
            row.become(NO_SORT, 0);
            return 1;
        }
        if (!between(sort, BYTES, BOOLEANS) || n > MOST_TAPE) return BAD;
        if (n < 0) return SIZE;
        row.become(sort, n);
        return 1;
    }

    public int item(int tape, int i, long v) {
        Tape row = tapeAt(tape);
        if (row == null) return NONE;
        if (row.holdsNothing()) return NOTHING;
        if (!row.has(i)) return PLACE;
        row.set(i, v);
        return 1;
    }

    public long peek(int tape, int i) {
        Tape row = tapeAt(tape);
        return row != null && row.has(i) ? row.get(i) : NO;
    }

    public int shift(int tape, int i, int other, int j, int n) {
        Tape from = tapeAt(tape);
        Tape to = tapeAt(other);
        if (from == null || to == null) return NONE;
        if (from.holdsNothing() || to.holdsNothing()) return NOTHING;
        if (from.sort != to.sort) return CAST;
        if (!from.hasAll(i, n) || !to.hasAll(j, n)) return PLACE;
        System.arraycopy(from.items, i, to.items, j, n);
        return n;
    }

    // ---- what the calls share

    private static boolean between(int n, int least, int most) {
        return n >= least && n <= most;
    }

    private static boolean isTurn(int n) {
        return between(n, -MOST_TURN, MOST_TURN);
    }

    /** NO never comes of it: the twos of a window, which stand below the line, are 9 at least. */
    private static long lowest(long above, long below, int part) {
        long common = commonDivisor(Math.abs(above), below);
        if (common < 1) return NO;
        return part == 0 ? above / common : below / common;
    }

    private static long commonDivisor(long a, long b) {
        long greater = a;
        long less = b;
        // Two steps halve the greater one at least, so that 128 are enough for longs.
        for (int step = 0; step < 128 && less != 0; step++) {
            long rest = greater % less;
            greater = less;
            less = rest;
        }
        return greater;
    }

    private Answers answersNow() {
        answers.look(now.equation);
        return answers;
    }

    private Answers answersInFamilies() {
        answers.look(now.equation);
        answers.findFamilies(units);
        return answers;
    }

    private Units unitsNow() {
        units.look(now.equation.form);
        return units;
    }

    private Parts partsNow() {
        parts.look(now.equation.form);
        return parts;
    }

    private int convergentAnswers() {
        Parts found = partsNow();
        int many = 0;
        for (int k = 0; k < found.size; k++) {
            if (now.equation.isAnswer(found.above(k), found.below(k))) many++;
        }
        return many;
    }

    private int clauseAnswer(int k) {
        int digit = text.clauses.second(k);
        int n = text.clauses.third(k);
        switch (text.clauses.first(k)) {
            case 'd': return degree(digit);
            case 'a': return number(digit, n);
            case '=': return equal(n);
            case 'w': return window(n);
            case 't': return move(digit);
            default: return NONE;
        }
    }

    private boolean isAsSeen(Form form) {
        for (int k = 0; k < now.seen.size; k++) {
            if (form.at(now.seen.first(k), now.seen.second(k)) != now.seen.third(k)) return false;
        }
        return true;
    }

    private void tryEvents() {
        tried.copy(now.equation);
        for (int k = 0; k < now.events.size; k++) {
            int n = now.events.second(k);
            switch (now.events.first(k)) {
                case 0: tried.form.raise(n); break;
                // What moveBy answers does not matter: it leaves a form alone that would be beyond.
                case 1: tried.form.moveBy(n); break;
                default: tried.addToM(n); break;
            }
        }
    }

    private Tape tapeAt(int tape) {
        return tape >= 0 && tape < tapes.length ? tapes[tape] : null;
    }

    /** DEGREE and NUMBERS; behind the last NUMBER the row holds zeros. */
    private static final class Form {
        private static final int[] MOVE_TURNS = {1, 1, 0, 1, 1, -1, 0, 1, 0, 1, 1, 0, -1, 0, 0, 1};
        private static final int TURNING_MOVES = 4, MOVES = 5;

        int degree = 3;
        private final int[] numbers = new int[MOST_DEGREE + 1];
        private final long[] turned = new long[MOST_DEGREE + 1];
        private final long[] power = new long[MOST_DEGREE + 1];

        static boolean isMove(int move) {
            return move >= 0 && move < MOVES;
        }

        void clear(int d) {
            degree = d;
            Arrays.fill(numbers, 0);
        }

        void copy(Form other) {
            degree = other.degree;
            System.arraycopy(other.numbers, 0, numbers, 0, numbers.length);
        }

        boolean isLike(Form other) {
            for (int i = 0; i < numbers.length; i++) {
                if (numbers[i] != other.numbers[i]) return false;
            }
            return degree == other.degree;
        }

        boolean has(int i) {
            return i >= 0 && i <= degree && i < numbers.length;
        }

        int get(int i) {
            return has(i) ? numbers[i] : 0;
        }

        void set(int i, int a) {
            if (has(i)) numbers[i] = a;
        }

        void raise(int i) {
            set(i, Math.min(MOST_NUMBER, get(i) + 1));
        }

        long at(long x, long y) {
            long sum = numbers[0];
            long powerOfY = 1;
            for (int i = 1; i <= degree && i < numbers.length; i++) {
                powerOfY *= y;
                sum = sum * x + numbers[i] * powerOfY;
            }
            return sum;
        }

        /** REMAINDERS as bits: bit r stands if VALUE is r somewhere, modulo p. */
        int remaindersBy(int p) {
            if (p < 2) return 0;
            int met = 0;
            for (int x = 0; x < p; x++) {
                for (int y = 0; y < p; y++) {
                    met |= 1 << Math.floorMod(at(x, y), p);
                }
            }
            return met;
        }

        boolean moveBy(int move) {
            if (!isMove(move)) return false;
            int from = move * TURNING_MOVES;
            if (move < TURNING_MOVES && from + 3 < MOVE_TURNS.length) {
                return turnBy(MOVE_TURNS[from], MOVE_TURNS[from + 1], MOVE_TURNS[from + 2], MOVE_TURNS[from + 3]);
            }
            for (int i = 0; i < numbers.length; i++) {
                numbers[i] = -numbers[i];
            }
            return true;
        }

        boolean turnBy(int u, int v, int w, int z) {
            findTurned(u, v, w, z);
            for (int i = 0; i < turned.length; i++) {
                if (turned[i] > MOST_NUMBER || turned[i] < -MOST_NUMBER) return false;
            }
            for (int i = 0; i < turned.length && i < numbers.length; i++) {
                numbers[i] = (int) turned[i];
            }
            return true;
        }

        boolean isLeftBy(int u, int v, int w, int z) {
            findTurned(u, v, w, z);
            for (int i = 0; i < turned.length && i < numbers.length; i++) {
                if (turned[i] != numbers[i]) return false;
            }
            return true;
        }

        /** As at() does it, but with rows in place of x and y: u x + v y and w x + z y. */
        private void findTurned(int u, int v, int w, int z) {
            Arrays.fill(turned, 0);
            Arrays.fill(power, 0);
            turned[0] = numbers[0];
            power[0] = 1;
            for (int i = 1; i <= degree && i < numbers.length; i++) {
                multiply(power, w, z);
                multiply(turned, u, v);
                for (int j = 0; j < turned.length && j < power.length; j++) {
                    turned[j] += numbers[i] * power[j];
                }
            }
        }

        private static void multiply(long[] row, int byX, int byY) {
            for (int j = row.length - 1; j > 0; j--) {
                row[j] = byX * row[j] + byY * row[j - 1];
            }
            row[0] = byX * row[0];
        }
    }

    /** THE FORM equal to M in THE WINDOW. */
    private static final class Equation {
        final Form form = new Form();
        int m = 1;
        int b = 10;

        void copy(Equation other) {
            form.copy(other.form);
            m = other.m;
            b = other.b;
        }

        boolean isLike(Equation other) {
            return m == other.m && b == other.b && form.isLike(other.form);
        }

        boolean hasInWindow(long x, long y) {
            return x >= -b && x <= b && y >= -b && y <= b;
        }

        boolean isAnswer(long x, long y) {
            return hasInWindow(x, y) && form.at(x, y) == m;
        }

        long twos() {
            long side = 2L * b + 1;
            return side * side;
        }

        int howManyAnswers() {
            int many = 0;
            for (int x = -b; x <= b; x++) {
                for (int y = -b; y <= b; y++) {
                    if (form.at(x, y) == m) many++;
                }
            }
            return many;
        }

        long valuesAboveM() {
            long many = 0;
            for (int x = -b; x <= b; x++) {
                for (int y = -b; y <= b; y++) {
                    if (form.at(x, y) > m) many++;
                }
            }
            return many;
        }

        long valuesTogether() {
            long sum = 0;
            for (int x = -b; x <= b; x++) {
                for (int y = -b; y <= b; y++) {
                    sum += form.at(x, y);
                }
            }
            return sum;
        }

        boolean isBarredBy(int p) {
            if (p < 2) return false;
            return (form.remaindersBy(p) >> Math.floorMod(m, p) & 1) == 0;
        }

        int firstBar() {
            for (int i = 0; i < PRIMES.length; i++) {
                if (isBarredBy(PRIMES[i])) return PRIMES[i];
            }
            return NOT_AS_MANY;
        }

        void addToM(int n) {
            if (between(m + n, -MOST_M, MOST_M)) m += n;
        }
    }

    /** What THE IMAGE holds. */
    private static final class State {
        final Equation equation = new Equation();
        final Rows seen = new Rows(MOST_SEEN);
        final Rows events = new Rows(MOST_EVENTS);
        final Rows book = new Rows(MOST_BOOK);

        void copy(State other) {
            equation.copy(other.equation);
            seen.copy(other.seen);
            events.copy(other.events);
            book.copy(other.book);
        }
    }

    /** Rows of up to three numbers each, as many as were made room for. */
    private static final class Rows {
        private static final int WIDTH = 3;

        int size = 0;
        private final int[] cells;

        Rows(int most) {
            cells = new int[Math.max(0, most) * WIDTH];
        }

        int empty() {
            size = 0;
            return 0;
        }

        int add(int first, int second, int third) {
            int at = size * WIDTH;
            if (at < 0 || at + 2 >= cells.length) return FULL;
            cells[at] = first;
            cells[at + 1] = second;
            cells[at + 2] = third;
            size++;
            return size;
        }

        void copy(Rows other) {
            size = other.size;
            System.arraycopy(other.cells, 0, cells, 0, Math.min(cells.length, other.cells.length));
        }

        int first(int k) {
            return cell(k, 0);
        }

        int second(int k) {
            return cell(k, 1);
        }

        int third(int k) {
            return cell(k, 2);
        }

        private int cell(int k, int column) {
            int at = k * WIDTH + column;
            return k >= 0 && k < size && at < cells.length ? cells[at] : 0;
        }
    }

    /** The TURNS of small numbers that leave a form as it is. */
    private static final class Units {
        private static final int MOST_ENTRY = 2, WIDTH = 4;
        // So many TURNS of these entries have u z less v w 1 or -1; all of them leave the form of zeros.
        private static final int ROOM = 104;

        int size = 0;
        private final int[] entries = new int[ROOM * WIDTH];

        void look(Form form) {
            size = 0;
            for (int u = -MOST_ENTRY; u <= MOST_ENTRY; u++) {
                for (int v = -MOST_ENTRY; v <= MOST_ENTRY; v++) {
                    for (int w = -MOST_ENTRY; w <= MOST_ENTRY; w++) {
                        for (int z = -MOST_ENTRY; z <= MOST_ENTRY; z++) {
                            int turning = u * z - v * w;
                            if ((turning == 1 || turning == -1) && form.isLeftBy(u, v, w, z)) add(u, v, w, z);
                        }
                    }
                }
            }
        }

        int get(int i, int what) {
            int at = i * WIDTH + what;
            return i >= 0 && i < size && what >= 0 && what < WIDTH && at < entries.length ? entries[at] : 0;
        }

        private void add(int u, int v, int w, int z) {
            int at = size * WIDTH;
            if (at < 0 || at + 3 >= entries.length) return;
            entries[at] = u;
            entries[at + 1] = v;
            entries[at + 2] = w;
            entries[at + 3] = z;
            size++;
        }
    }

    /** The ANSWERS and their FAMILIES, kept for the equation that was looked at last: they are dear to find. */
    private static final class Answers {
        private static final int SIDE = 2 * MOST_REACH + 1;
        private static final int NO_CELL = -1;
        // Labels below the last of these tell the cell behind one that waits for its FAMILY.
        private static final int NO_ANSWER = -1, NO_FAMILY_YET = -2, LAST_WAITING = -3;

        int size = 0;
        int families = 0;
        private boolean looked = false;
        private boolean familiesFound = false;
        private final Equation equation = new Equation();
        // By cell, in the order of the ANSWERS' numbers: the FAMILY, or why there is none.
        private final int[] labels = new int[SIDE * SIDE];

        static int xOf(int cell) {
            return cell / SIDE - MOST_REACH;
        }

        static int yOf(int cell) {
            return cell % SIDE - MOST_REACH;
        }

        void look(Equation asked) {
            if (looked && equation.isLike(asked)) return;
            looked = true;
            equation.copy(asked);
            size = 0;
            families = 0;
            familiesFound = false;
            Arrays.fill(labels, NO_ANSWER);
            for (int x = -equation.b; x <= equation.b; x++) {
                for (int y = -equation.b; y <= equation.b; y++) {
                    if (equation.isAnswer(x, y)) {
                        setLabel(cellAt(x, y), NO_FAMILY_YET);
                        size++;
                    }
                }
            }
        }

        /** For the equation that was looked at. */
        void findFamilies(Units units) {
            if (familiesFound) return;
            familiesFound = true;
            units.look(equation.form);
            for (int cell = 0; cell < labels.length; cell++) {
                if (labels[cell] == NO_FAMILY_YET) {
                    spread(cell, units);
                    families++;
                }
            }
        }

        /** NO_CELL: there are not as many. */
        int cellOfAnswer(int i) {
            int ahead = 0;
            for (int cell = 0; cell < labels.length; cell++) {
                if (labels[cell] == NO_ANSWER) continue;
                if (ahead == i) return cell;
                ahead++;
            }
            return NO_CELL;
        }

        int sizeOfFamily(int family) {
            int many = 0;
            for (int cell = 0; cell < labels.length; cell++) {
                if (labels[cell] == family) many++;
            }
            return many;
        }

        int labelAt(int cell) {
            return cell >= 0 && cell < labels.length ? labels[cell] : NO_ANSWER;
        }

        private void setLabel(int cell, int label) {
            if (cell >= 0 && cell < labels.length) labels[cell] = label;
        }

        /** NO_CELL: beyond THE WINDOW. */
        private int cellAt(int x, int y) {
            return equation.hasInWindow(x, y) ? (x + MOST_REACH) * SIDE + y + MOST_REACH : NO_CELL;
        }

        // Links that count both ways need no care here: the TURN that undoes a UNIT
        // has its numbers, but for places and signs, and so is a UNIT too.
        private void spread(int first, Units units) {
            int waiting = await(first, NO_CELL);
            for (int taken = 0; taken < labels.length && waiting != NO_CELL; taken++) {
                int cell = waiting;
                waiting = behind(cell);
                setLabel(cell, families);
                for (int i = 0; i < units.size; i++) {
                    int x = units.get(i, 0) * xOf(cell) + units.get(i, 1) * yOf(cell);
                    int y = units.get(i, 2) * xOf(cell) + units.get(i, 3) * yOf(cell);
                    waiting = await(cellAt(x, y), waiting);
                }
            }
        }

        /** The first of the cells that wait, each labelled by the one behind it: that saves a second row. */
        private int await(int cell, int waiting) {
            if (labelAt(cell) != NO_FAMILY_YET) return waiting;
            setLabel(cell, LAST_WAITING - 1 - waiting);
            return cell;
        }

        private int behind(int cell) {
            int label = labelAt(cell);
            return label < LAST_WAITING ? LAST_WAITING - 1 - label : NO_CELL;
        }
    }

    /** The PARTS of a root and their CONVERGENTS. */
    private static final class Parts {
        private static final int MOST = 8, GREATEST = 99;
        private static final long MOST_IN_ROW = 1000000000L;

        int size = 0;
        private int degree = 0;
        private final long[] row = new long[MOST_DEGREE + 1];
        private final int[] wholes = new int[MOST];
        private final long[] aboves = new long[MOST];
        private final long[] belows = new long[MOST];

        void look(Form form) {
            size = 0;
            degree = form.degree;
            for (int i = 0; i < row.length; i++) {
                row[i] = form.get(i);
            }
            for (int k = 0; k < MOST; k++) {
                int n = greatestFrom(k == 0 ? 0 : 1);
                if (n < 0) return;
                keep(n);
                if (at(n) == 0) return;
                goBehind(n);
                if (isRowBeyond()) return;
            }
        }

        int get(int k) {
            return k >= 0 && k < size && k < MOST ? wholes[k] : 0;
        }

        long above(int k) {
            return k >= 0 && k < size && k < MOST ? aboves[k] : 0;
        }

        long below(int k) {
            return k >= 0 && k < size && k < MOST ? belows[k] : 0;
        }

        /** -1: there is none. */
        private int greatestFrom(int least) {
            long behind = at(GREATEST + 1);
            for (int n = GREATEST; n >= least; n--) {
                long here = at(n);
                if (here == 0 || (here > 0 && behind < 0) || (here < 0 && behind > 0)) return n;
                behind = here;
            }
            return -1;
        }

        private long at(int n) {
            long sum = 0;
            for (int i = 0; i <= degree && i < row.length; i++) {
                sum = sum * n + row[i];
            }
            return sum;
        }

        private void keep(int n) {
            if (size < 0 || size >= MOST) return;
            // Ahead of CONVERGENT 0 stands 1 by 0, and ahead of that 0 by 1.
            long above = size > 0 ? aboves[size - 1] : 1;
            long below = size > 0 ? belows[size - 1] : 0;
            long aboveAhead = size > 1 ? aboves[size - 2] : size;
            long belowAhead = size > 1 ? belows[size - 2] : 1 - size;
            wholes[size] = n;
            aboves[size] = n * above + aboveAhead;
            belows[size] = n * below + belowAhead;
            size++;
        }

        /** The row becomes that of t^d f(n + 1/t): that of f(n + t), the other way round. */
        private void goBehind(int n) {
            for (int last = degree; last > 0; last--) {
                for (int i = 1; i <= last && i < row.length; i++) {
                    row[i] += n * row[i - 1];
                }
            }
            for (int i = 0, j = degree; i < j && j < row.length; i++, j--) {
                long first = row[i];
                row[i] = row[j];
                row[j] = first;
            }
        }

        private boolean isRowBeyond() {
            for (int i = 0; i < row.length; i++) {
                if (row[i] > MOST_IN_ROW || row[i] < -MOST_IN_ROW) return true;
            }
            return false;
        }
    }

    /** THE TEXT, and the CLAUSES that were found in it last: rows of kind, DIGIT, NUMBER. */
    private static final class SetUp {
        static final int NO_FAULT = -1;
        private static final int MOST_BYTES = 100, MOST_CLAUSES = 12, MOST_DIGITS = 4, END = -1;

        int size = 0;
        final Rows clauses = new Rows(MOST_CLAUSES);
        private final int[] bytes = new int[MOST_BYTES];
        private int place = 0;
        private int digit = 0;
        private int n = 0;

        /** Whether there was room. */
        boolean add(int sign) {
            if (size < 0 || size >= bytes.length) return false;
            bytes[size] = sign;
            size++;
            return true;
        }

        int findFault() {
            clauses.empty();
            place = 0;
            for (int k = 0; k < MOST_CLAUSES; k++) {
                if (!takeClause()) return place;
                if (next() == END) return NO_FAULT;
                if (next() != ';' || k == MOST_CLAUSES - 1) return place;
                place++;
            }
            return place;
        }

        private int next() {
            return place >= 0 && place < size && place < bytes.length ? bytes[place] : END;
        }

        /** If it can't be taken, the place stands at the byte because of which. */
        private boolean takeClause() {
            int kind = next();
            digit = 0;
            n = 0;
            if (!isKind(kind)) return false;
            place++;
            if (hasDigit(kind) && !takeDigit()) return false;
            if (hasNumber(kind) && !takeNumber()) return false;
            clauses.add(kind, digit, n);
            return true;
        }

        private static boolean isKind(int sign) {
            return hasDigit(sign) || hasNumber(sign);
        }

        private static boolean hasDigit(int kind) {
            return kind == 'd' || kind == 'a' || kind == 't';
        }

        private static boolean hasNumber(int kind) {
            return kind == 'a' || kind == '=' || kind == 'w';
        }

        private boolean isAtDigit() {
            return next() >= '0' && next() <= '9';
        }

        private boolean takeDigit() {
            if (!isAtDigit()) return false;
            digit = next() - '0';
            place++;
            return true;
        }

        private boolean takeNumber() {
            boolean below = next() == '-';
            if (below) place++;
            if (!isAtDigit()) return false;
            for (int k = 0; k < MOST_DIGITS && isAtDigit(); k++) {
                n = n * 10 + next() - '0';
                place++;
            }
            if (below) n = -n;
            return true;
        }
    }

    /** A row of items of one sort, each held as a long, or nothing. */
    private static final class Tape {
        int sort = NO_SORT;
        final long[] items = new long[MOST_TAPE];
        private int size = 0;

        void become(int newSort, int n) {
            sort = newSort;
            size = Math.max(0, Math.min(n, items.length));
            Arrays.fill(items, 0);
        }

        boolean holdsNothing() {
            return sort == NO_SORT;
        }

        boolean has(int i) {
            return i >= 0 && i < size && i < items.length;
        }

        boolean hasAll(int i, int n) {
            return i >= 0 && n >= 0 && i <= size - n;
        }

        long get(int i) {
            return has(i) ? items[i] : 0;
        }

        void set(int i, long v) {
            if (has(i)) items[i] = lowestBits(v);
        }

        private long lowestBits(long v) {
            switch (sort) {
                case BYTES: return (byte) v;
                case SHORTS: return (short) v;
                case INTS: return (int) v;
                case BOOLEANS: return v != 0 ? 1 : 0;
                default: return v;
            }
        }
    }
}

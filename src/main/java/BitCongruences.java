/**
 * Finds what is known of the numbers of small methods ahead of any run, and lets the methods run to see that
 * every number is as was found. The words in capitals of DOC.md are told there; comments here say only why.
 */
public final class BitCongruences {
    public static final int BAD = -1, FULL = -2, STATE = -3;

    private static final int FACTS = 16, METHODS = 6, LINES = 32, PLACES = 8, TABLES = 4, TABLE_ROOM = 16;
    private static final int MOST_STEPS = 1000, MOST_ROUNDS = 30, MOST_SHARPENINGS = 6, MOST_COUNTS = 8, PATIENCE = 4;

    private static final int ADD = 0, SUBTRACT = 1, MULTIPLY = 2, AND = 3, OR = 4, XOR = 5;
    private static final int LEFT = 6, RIGHT = 7, RIGHT_ZEROS = 8, DIVIDE = 9, REMAINDER = 10, MIX = 11;
    private static final int NEGATE = 12, TURN = 13, BYTE = 14, SHORT = 15, INT = 16;
    private static final int LOW_8 = 17, LOW_16 = 18, LOW_32 = 19;
    private static final int SET = 20, COPY = 21, LOOK_UP = 22, SAME = 23, LESS = 24, BIT = 25, GO = 26, END = 27;
    private static final int JOIN = 20, MEET = 21;

    private static final int WORD = 64;
    private static final long LEAST = 1L << 63, GREATEST = ~LEAST, MOST_MODULUS = 2147483647L;

    private static final int NO_RUN = 0, OVER = 1, STOPPED = 2, NO_LINES_LEFT = 3;
    private static final int NO_LINE = -1;
    private static final long MIX_FACTOR = -4658895280553007687L;

    private final Fact[] facts = new Fact[FACTS];
    private final Routine[] routines = new Routine[METHODS];
    private int routineCount = 0;
    private final Tables tables = new Tables();
    private final Acts acts = new Acts();
    private final Finder finder = new Finder();
    private final Run run = new Run();
    private final long[] putIn = new long[PLACES];
    private final Fact besides = new Fact();
    private final Fact outcome = new Fact();

    public BitCongruences() {
        for (int f = 0; f < FACTS; f++) {
            facts[f] = new Fact();
        }
    }

    // ---- facts 0 .. 15

    public int fact(int f, long low, long high) {
        Fact fact = factAt(f);
        if (fact == null) {
            return BAD;
        }
        fact.makeAll();
        fact.low = low;
        fact.high = high;
        fact.sharpen();
        return oneUnlessNone(fact);
    }

    public int bits(int f, long known, long values) {
        Fact fact = factAt(f);
        if (fact == null) {
            return BAD;
        }
        besides.makeAll();
        besides.known = known;
        besides.values = values & known;
        return meetBesides(fact);
    }

    public int rest(int f, int m, long r) {
        Fact fact = factAt(f);
        if (fact == null || m <= 0 || m % 2 == 0) {
            return BAD;
        }
        besides.makeAll();
        besides.modulus = m;
        besides.rest = restBy(r, m);
        return meetBesides(fact);
    }

    public int act(int op, int a, int b, int to) {
        Fact first = factAt(a);
        Fact second = factAt(b);
        Fact target = factAt(to);
        if (op < 0 || op > MEET || first == null || second == null || target == null) {
            return BAD;
        }
        if (op == JOIN) {
            outcome.becomeJoin(first, second);
        } else if (op == MEET) {
            outcome.becomeMeet(first, second);
        } else {
            acts.work(op, first, second, outcome);
        }
        target.copy(outcome);
        return oneUnlessNone(target);
    }

    public long told(int f, int what) {
        Fact fact = factAt(f);
        if (fact == null) {
            return 0;
        }
        switch (what) {
            case 0: return fact.low;
            case 1: return fact.high;
            case 2: return fact.known;
            case 3: return fact.values;
            case 4: return fact.modulus;
            case 5: return fact.rest;
            case 6: return fact.none ? 1 : 0;
            default: return 0;
        }
    }

    public boolean isOf(int f, long v) {
        Fact fact = factAt(f);
        return fact != null && fact.holds(v);
    }

    // ---- methods

    public int method() {
        if (routineCount >= METHODS) {
            return FULL;
        }
        routines[routineCount] = new Routine();
        routineCount++;
        return routineCount - 1;
    }

    public int op(int method, int op, int a, int b) {
        Routine routine = routineAt(method);
        if (routine == null || !isLine(op, a, b)) {
            return BAD;
        }
        if (routine.count >= LINES) {
            return FULL;
        }
        routine.addLine(op, a, b);
        return routine.count - 1;
    }

    public int table(int t, long v) {
        if (t < 0 || t >= TABLES) {
            return BAD;
        }
        if (tables.sizes[t] >= TABLE_ROOM) {
            return FULL;
        }
        tables.addNumber(t, v);
        for (int i = 0; i < routineCount; i++) {
            routines[i].isFound = false;
        }
        return tables.sizes[t];
    }

    public int given(int method, int place, int f) {
        Routine routine = routineAt(method);
        Fact fact = factAt(f);
        if (routine == null || fact == null || !isPlace(place)) {
            return BAD;
        }
        if (fact.none) {
            return STATE;
        }
        routine.start[place].copy(fact);
        routine.isFound = false;
        return 1;
    }

    public int find(int method) {
        Routine routine = routineAt(method);
        if (routine == null) {
            return BAD;
        }
        finder.begin(routine);
        int rounds = 0;
        while (rounds < MOST_ROUNDS && finder.someWait()) {
            rounds++;
            for (int line = 0; line < routine.count; line++) {
                finder.workLine(routine, tables, line);
            }
        }
        finder.end(routine);
        return rounds;
    }

    public int found(int method, int line, int place, int f) {
        Routine routine = routineAt(method);
        Fact fact = factAt(f);
        if (routine == null || line < 0 || line >= routine.count || !isPlace(place) || fact == null) {
            return BAD;
        }
        if (!routine.isFound) {
            return STATE;
        }
        if (routine.reached[line]) {
            fact.copy(routine.ahead[line * PLACES + place]);
        } else {
            fact.makeNone();
        }
        return oneUnlessNone(fact);
    }

    public int sum(int method, int what) {
        Routine routine = routineAt(method);
        if (routine == null || what < 0 || what > 3) {
            return BAD;
        }
        if (!routine.isFound) {
            return STATE;
        }
        switch (what) {
            case 0: return routine.reachedLines();
            case 1: return routine.givenUpLines();
            case 2: return routine.constants();
            default: return routine.widened;
        }
    }

    // ---- runs

    public long put(int place, long v) {
        if (!isPlace(place)) {
            return 0;
        }
        long was = putIn[place];
        putIn[place] = v;
        return was;
    }

    public int walk(int method, int lines) {
        Routine routine = routineAt(method);
        if (routine == null || lines < 0 || lines > MOST_STEPS) {
            return BAD;
        }
        if (!routine.isFound || !routine.allows(putIn)) {
            return STATE;
        }
        return run.begin(routine, tables, putIn, lines);
    }

    public long now(int place) {
        return isPlace(place) ? run.numbers[place] : 0;
    }

    public int ran(int what) {
        switch (what) {
            case 0: return run.ended;
            case 1: return run.next;
            case 2: return run.wrongAt;
            default: return BAD;
        }
    }

    // ---- what the calls share

    private Fact factAt(int f) {
        return f < 0 || f >= FACTS ? null : facts[f];
    }

    private Routine routineAt(int method) {
        return method < 0 || method >= routineCount ? null : routines[method];
    }

    private int meetBesides(Fact fact) {
        besides.sharpen();
        fact.becomeMeet(fact, besides);
        return oneUnlessNone(fact);
    }

    private static int oneUnlessNone(Fact fact) {
        return fact.none ? 0 : 1;
    }

    private static boolean isPlace(int place) {
        return place >= 0 && place < PLACES;
    }

    private static boolean isLine(int op, int a, int b) {
        if (op < 0 || op > END || !isPlace(a)) {
            return false;
        }
        switch (op) {
            case SET: return true;
            case LOOK_UP: return b >= 0 && b < TABLES;
            case BIT: return b >= 0 && b < WORD;
            case GO: return a == 0 && b >= 0 && b <= LINES;
            case END: return a == 0 && b == 0;
            default: return isPlace(b);
        }
    }

    // ---- whole numbers

    private static long restBy(long v, long modulus) {
        if (modulus <= 1) {
            return 0;
        }
        long rest = v % modulus;
        return rest < 0 ? rest + modulus : rest;
    }

    private static long commonDivisor(long a, long b) {
        long x = a;
        long y = b;
        // Euclid's steps on longs are fewer than 100; the bound only makes the end plain to see.
        for (int i = 0; i < 200 && y != 0; i++) {
            long rest = x % y;
            x = y;
            y = rest;
        }
        return x;
    }

    /** Takes its number without a sign, as the distance of two longs may be above the greatest long. */
    private static long withoutTwos(long n) {
        long odd = n;
        for (int i = 0; i < WORD && odd != 0 && (odd & 1) == 0; i++) {
            odd >>>= 1;
        }
        return odd;
    }

    private static long oddPart(long n) {
        long odd = withoutTwos(n);
        return odd <= 0 || odd > MOST_MODULUS ? 1 : odd;
    }

    /**
     * The least number from 'from' on with these bits; one below 'from' if there is none, which can't be
     * mistaken, as from the least long on there always is one.
     */
    private static long leastWithBits(long from, long known, long values) {
        long wrong = (from ^ values) & known;
        if (wrong == 0) {
            return from;
        }
        // With the sign bit turned, longs are in the order of their bits.
        long start = from ^ LEAST;
        long wanted = values ^ (known & LEAST);
        long downward = wrong | wrong >>> 1;
        downward |= downward >>> 2;
        downward |= downward >>> 4;
        downward |= downward >>> 8;
        downward |= downward >>> 16;
        downward |= downward >>> 32;
        long raised = downward ^ downward >>> 1;
        if ((wanted & raised) == 0) {
            long free = ~start & ~known & ~downward;
            raised = free & -free;
            if (raised == 0) {
                return LEAST;
            }
        }
        long below = raised - 1;
        return (start & ~below | raised | wanted & below) ^ LEAST;
    }

    private static boolean sumWraps(long a, long b) {
        return ((a ^ a + b) & (b ^ a + b)) < 0;
    }

    private static boolean differenceWraps(long a, long b) {
        return ((a ^ b) & (a ^ a - b)) < 0;
    }

    private static boolean productWraps(long a, long b) {
        if (a == 0 || b == 0) {
            return false;
        }
        return a == LEAST && b == -1 || a * b / b != a;
    }

    /** What is known of a number. A CONSTANT is held with modulus 1 and rest 0, NONE with zeros throughout. */
    private static final class Fact {
        boolean none;
        long low;
        long high;
        long known;
        long values;
        long modulus;
        long rest;

        Fact() {
            low = LEAST;
            high = GREATEST;
            modulus = 1;
        }

        void makeAll() {
            become(LEAST, GREATEST, 0, 0, 1, 0);
        }

        void makeNone() {
            become(0, 0, 0, 0, 0, 0);
            none = true;
        }

        void makeConstant(long v) {
            become(v, v, -1, v, 1, 0);
        }

        void become(long low, long high, long known, long values, long modulus, long rest) {
            this.none = false;
            this.low = low;
            this.high = high;
            this.known = known;
            this.values = values;
            this.modulus = modulus;
            this.rest = rest;
        }

        void copy(Fact other) {
            none = other.none;
            low = other.low;
            high = other.high;
            known = other.known;
            values = other.values;
            modulus = other.modulus;
            rest = other.rest;
        }

        boolean isConstant() {
            return !none && low == high;
        }

        boolean isLike(Fact other) {
            return none == other.none && low == other.low && high == other.high && known == other.known
                    && values == other.values && modulus == other.modulus && rest == other.rest;
        }

        boolean holds(long v) {
            return !none && v >= low && v <= high && ((v ^ values) & known) == 0 && restBy(v, modulus) == rest;
        }

        long countedModulus() {
            return isConstant() ? 0 : modulus;
        }

        long countedRest() {
            return isConstant() ? low : rest;
        }

        void sharpen() {
            for (int time = 0; time < MOST_SHARPENINGS && !none; time++) {
                long lowWas = low;
                long highWas = high;
                long knownWas = known;
                if (!fitBits() || !fitRest() || !learnBits()) {
                    makeNone();
                } else if (low == high) {
                    makeConstant(low);
                    return;
                } else if (low == lowWas && high == highWas && known == knownWas) {
                    return;
                }
            }
        }

        private boolean fitBits() {
            long lowWas = low;
            long highWas = high;
            low = leastWithBits(low, known, values);
            // Turning all bits turns the order of longs round.
            high = ~leastWithBits(~high, known, known & ~values);
            return low >= lowWas && high <= highWas && low <= high;
        }

        private boolean fitRest() {
            long up = restBy(rest - restBy(low, modulus), modulus);
            long down = restBy(restBy(high, modulus) - rest, modulus);
            if (low > GREATEST - up || high < LEAST + down) {
                return false;
            }
            low += up;
            high -= down;
            return low <= high;
        }

        private boolean learnBits() {
            long differ = low ^ high;
            differ |= differ >>> 1;
            differ |= differ >>> 2;
            differ |= differ >>> 4;
            differ |= differ >>> 8;
            differ |= differ >>> 16;
            differ |= differ >>> 32;
            long alike = ~differ;
            if (((low ^ values) & known & alike) != 0) {
                return false;
            }
            known |= alike;
            values |= low & alike;
            return true;
        }

        /** This may be a or b itself. */
        void becomeJoin(Fact a, Fact b) {
            if (a.none) {
                copy(b);
            } else if (b.none || a.isConstant() && b.isConstant() && a.low == b.low) {
                copy(a);
            } else {
                long m = joinModulus(a, b);
                long alike = a.known & b.known & ~(a.values ^ b.values);
                become(Math.min(a.low, b.low), Math.max(a.high, b.high), alike, a.values & alike,
                        m, restBy(a.countedRest(), m));
                sharpen();
            }
        }

        private static long joinModulus(Fact a, Fact b) {
            long both = commonDivisor(a.countedModulus(), b.countedModulus());
            if (both == 0) {
                return oddPart(Math.max(a.low, b.low) - Math.min(a.low, b.low));
            }
            long apart = restBy(a.countedRest(), both) - restBy(b.countedRest(), both);
            return oddPart(commonDivisor(both, Math.abs(apart)));
        }

        /** This may be a or b itself. */
        void becomeMeet(Fact a, Fact b) {
            if (a.none || b.none || ((a.values ^ b.values) & a.known & b.known) != 0) {
                makeNone();
                return;
            }
            Fact finer = b.modulus > a.modulus ? b : a;
            become(Math.max(a.low, b.low), Math.min(a.high, b.high), a.known | b.known, a.values | b.values,
                    finer.modulus, finer.rest);
            sharpen();
        }

        /**
         * The carries of the least and of the greatest sum: where they are alike the carry is known, and just
         * there, as a carry is known when two of the three below it are known alike.
         */
        void becomeBitSum(long known1, long values1, long known2, long values2, long carry) {
            long most1 = values1 | ~known1;
            long most2 = values2 | ~known2;
            long leastSum = values1 + values2 + carry;
            long leastCarries = leastSum ^ values1 ^ values2;
            long mostCarries = most1 + most2 + carry ^ most1 ^ most2;
            known = known1 & known2 & ~(leastCarries ^ mostCarries);
            values = leastSum & known;
        }

        void limit(long low, long high, long modulus, long rest) {
            this.low = low;
            this.high = high;
            this.modulus = modulus;
            this.rest = rest;
        }
    }

    /** The acts 0 .. 19, of numbers and of facts. */
    private static final class Acts {
        private final Fact zero = new Fact();
        private final Fact moved = new Fact();

        Acts() {
            zero.makeConstant(0);
        }

        static boolean stops(int op, long b) {
            return (op == DIVIDE || op == REMAINDER) && b == 0;
        }

        /** Not to be asked where it stops; from NEGATE on b does not count. */
        static long number(int op, long a, long b) {
            switch (op) {
                case ADD: return a + b;
                case SUBTRACT: return a - b;
                case MULTIPLY: return a * b;
                case AND: return a & b;
                case OR: return a | b;
                case XOR: return a ^ b;
                case LEFT: return a << (b & 63);
                case RIGHT: return a >> (b & 63);
                case RIGHT_ZEROS: return a >>> (b & 63);
                case DIVIDE: return b == 0 ? 0 : a / b;
                case REMAINDER: return b == 0 ? 0 : a % b;
                case MIX: return (a ^ a >>> 29) * MIX_FACTOR + b;
                case NEGATE: return -a;
                case TURN: return ~a;
                case BYTE: return (byte) a;
                case SHORT: return (short) a;
                case INT: return (int) a;
                case LOW_8: return a & 0xFFL;
                case LOW_16: return a & 0xFFFFL;
                case LOW_32: return a & 0xFFFFFFFFL;
                default: return 0;
            }
        }

        /** Of facts that are not NONE. */
        static boolean givesUp(int op, Fact a, Fact b) {
            switch (op) {
                case LEFT:
                case RIGHT:
                case RIGHT_ZEROS: return 1 << Long.bitCount(~b.known & 63) > MOST_COUNTS;
                case DIVIDE:
                case REMAINDER: return !b.isConstant() || b.low <= 0 && !a.isConstant();
                case MIX: return !a.isConstant() || !b.isConstant();
                default: return false;
            }
        }

        /** What comes goes to 'to', which is neither a nor b. */
        void work(int op, Fact a, Fact b, Fact to) {
            if (a.none || op < NEGATE && b.none) {
                to.makeNone();
                return;
            }
            if (a.isConstant() && (op >= NEGATE || b.isConstant())) {
                constant(op, a.low, b.low, to);
                return;
            }
            to.makeAll();
            if (givesUp(op, a, b)) {
                return;
            }
            switch (op) {
                case ADD: plus(a, b, to); break;
                case SUBTRACT: minus(a, b, to); break;
                case MULTIPLY: times(a, b, to); break;
                case AND:
                case OR:
                case XOR: bitwise(op, a, b, to); break;
                case LEFT:
                case RIGHT:
                case RIGHT_ZEROS: shifted(op, a, b, to); break;
                case DIVIDE: quotient(a, b.low, to); break;
                case REMAINDER: remainder(a, b.low, to); break;
                case NEGATE: minus(zero, a, to); break;
                case TURN: turned(a, to); break;
                default: narrowed(op, a, to); break;
            }
            to.sharpen();
        }

        private static void constant(int op, long a, long b, Fact to) {
            if (stops(op, b)) {
                to.makeNone();
            } else {
                to.makeConstant(number(op, a, b));
            }
        }

        private static void plus(Fact a, Fact b, Fact to) {
            to.becomeBitSum(a.known, a.values, b.known, b.values, 0);
            if (!sumWraps(a.low, b.low) && !sumWraps(a.high, b.high)) {
                long m = oddPart(commonDivisor(a.countedModulus(), b.countedModulus()));
                long rests = restBy(a.countedRest(), m) + restBy(b.countedRest(), m);
                to.limit(a.low + b.low, a.high + b.high, m, restBy(rests, m));
            }
        }

        private static void minus(Fact a, Fact b, Fact to) {
            to.becomeBitSum(a.known, a.values, b.known, ~b.values & b.known, 1);
            if (!differenceWraps(a.low, b.high) && !differenceWraps(a.high, b.low)) {
                long m = oddPart(commonDivisor(a.countedModulus(), b.countedModulus()));
                long rests = restBy(a.countedRest(), m) - restBy(b.countedRest(), m);
                to.limit(a.low - b.high, a.high - b.low, m, restBy(rests, m));
            }
        }

        private static void times(Fact a, Fact b, Fact to) {
            productBits(a, b, to);
            if (productWraps(a.low, b.low) || productWraps(a.low, b.high)
                    || productWraps(a.high, b.low) || productWraps(a.high, b.high)) {
                return;
            }
            long p = a.low * b.low;
            long q = a.low * b.high;
            long r = a.high * b.low;
            long s = a.high * b.high;
            long m = productModulus(a, b);
            long rests = restBy(a.countedRest(), m) * restBy(b.countedRest(), m);
            to.limit(Math.min(Math.min(p, q), Math.min(r, s)), Math.max(Math.max(p, q), Math.max(r, s)),
                    m, restBy(rests, m));
        }

        private static void productBits(Fact a, Fact b, Fact to) {
            to.known = -1;
            to.values = 0;
            for (int i = 0; i < WORD; i++) {
                long bit = 1L << i;
                long known = a.known << i | bit - 1;
                long values = a.values << i;
                if ((b.known & bit) == 0) {
                    to.becomeBitSum(to.known, to.values, known & ~values, 0, 0);
                } else if ((b.values & bit) != 0) {
                    to.becomeBitSum(to.known, to.values, known, values, 0);
                }
            }
        }

        private static long productModulus(Fact a, Fact b) {
            if (a.isConstant()) {
                return multipliedModulus(b.modulus, a.low);
            }
            if (b.isConstant()) {
                return multipliedModulus(a.modulus, b.low);
            }
            long crossed = commonDivisor(a.modulus * b.rest, b.modulus * a.rest);
            return oddPart(commonDivisor(a.modulus * b.modulus, crossed));
        }

        /** Without the factors 2 first, as the modulus times the whole constant may be above all longs. */
        private static long multipliedModulus(long modulus, long constant) {
            long odd = withoutTwos(Math.abs(constant));
            return odd > MOST_MODULUS ? 1 : oddPart(modulus * odd);
        }

        private static void bitwise(int op, Fact a, Fact b, Fact to) {
            long zeros1 = a.known & ~a.values;
            long zeros2 = b.known & ~b.values;
            long ones;
            long zeros;
            if (op == AND) {
                ones = a.values & b.values;
                zeros = zeros1 | zeros2;
                to.high = Math.min(a.low >= 0 ? a.high : to.high, b.low >= 0 ? b.high : to.high);
            } else if (op == OR) {
                ones = a.values | b.values;
                zeros = zeros1 & zeros2;
            } else {
                ones = a.values & zeros2 | zeros1 & b.values;
                zeros = a.values & b.values | zeros1 & zeros2;
            }
            to.known = ones | zeros;
            to.values = ones;
        }

        private void shifted(int op, Fact a, Fact b, Fact to) {
            long known = b.known & 63;
            long values = b.values & 63;
            to.makeNone();
            for (int count = 0; count < WORD; count++) {
                if ((count & known) == values) {
                    move(op, a, count);
                    to.becomeJoin(to, moved);
                }
            }
        }

        private void move(int op, Fact a, int count) {
            if (count == 0) {
                moved.copy(a);
                return;
            }
            if (a.isConstant()) {
                moved.makeConstant(number(op, a.low, count));
                return;
            }
            moved.makeAll();
            if (op == LEFT) {
                moveLeft(a, count);
            } else if (op == RIGHT) {
                moved.become(a.low >> count, a.high >> count, a.known >> count, a.values >> count, 1, 0);
            } else {
                moveRightZeros(a, count);
            }
            moved.sharpen();
        }

        private void moveLeft(Fact a, int count) {
            moved.known = a.known << count | (1L << count) - 1;
            moved.values = a.values << count;
            long low = a.low << count;
            long high = a.high << count;
            if (low >> count == a.low && high >> count == a.high) {
                // In two halves, as 2 to the 63rd is no long.
                int half = count / 2;
                long once = restBy(a.rest * restBy(1L << half, a.modulus), a.modulus);
                long twice = restBy(once * restBy(1L << count - half, a.modulus), a.modulus);
                moved.limit(low, high, a.modulus, twice);
            }
        }

        private void moveRightZeros(Fact a, int count) {
            boolean oneSign = a.low >= 0 || a.high < 0;
            moved.low = oneSign ? a.low >>> count : 0;
            moved.high = (oneSign ? a.high : -1L) >>> count;
            moved.known = a.known >>> count | ~(-1L >>> count);
            moved.values = a.values >>> count;
        }

        private static void quotient(Fact a, long by, Fact to) {
            if (by > 0) {
                to.low = a.low / by;
                to.high = a.high / by;
            }
        }

        /** 'by' is above 0. */
        private static void remainder(Fact a, long by, Fact to) {
            if (-by < a.low && a.high < by) {
                to.copy(a);
                return;
            }
            long m = oddPart(commonDivisor(a.modulus, by));
            to.limit(a.low >= 0 ? 0 : Math.max(a.low, 1 - by), a.high <= 0 ? 0 : Math.min(a.high, by - 1),
                    m, restBy(a.rest, m));
            long mask = by - 1;
            if ((by & mask) == 0 && a.low >= 0) {
                to.known = a.known | ~mask;
                to.values = a.values & mask;
            }
        }

        private static void turned(Fact a, Fact to) {
            to.become(~a.high, ~a.low, a.known, ~a.values & a.known, a.modulus, restBy(-1 - a.rest, a.modulus));
        }

        private static void narrowed(int op, Fact a, Fact to) {
            boolean signed = op <= INT;
            int width = 8 << (op - BYTE) % 3;
            long least = signed ? -1L << width - 1 : 0;
            long greatest = signed ? ~least : ~(-1L << width);
            if (a.low >= least && a.high <= greatest) {
                to.copy(a);
                return;
            }
            to.low = least;
            to.high = greatest;
            int away = WORD - width;
            if (signed) {
                to.known = a.known << away >> away;
                to.values = a.values << away >> away;
            } else {
                to.known = a.known | ~greatest;
                to.values = a.values & greatest;
            }
        }
    }

    /** TABLES 0 .. 3. */
    private static final class Tables {
        final long[][] numbers = new long[TABLES][TABLE_ROOM];
        final int[] sizes = new int[TABLES];

        void addNumber(int t, long v) {
            numbers[t][sizes[t]] = v;
            sizes[t]++;
        }

        boolean has(int t, long place) {
            return place >= 0 && place < sizes[t];
        }
    }

    /** A METHOD: its LINES, what is GIVEN, and what was found of it. */
    private static final class Routine {
        final int[] ops = new int[LINES];
        final int[] firsts = new int[LINES];
        final int[] seconds = new int[LINES];
        int count = 0;
        final Fact[] start = new Fact[PLACES];
        final Fact[] ahead = new Fact[LINES * PLACES];
        final boolean[] reached = new boolean[LINES];
        boolean isFound = false;
        int widened = 0;

        Routine() {
            for (int p = 0; p < PLACES; p++) {
                start[p] = new Fact();
            }
            for (int at = 0; at < LINES * PLACES; at++) {
                ahead[at] = new Fact();
            }
        }

        void addLine(int op, int a, int b) {
            ops[count] = op;
            firsts[count] = a;
            seconds[count] = b;
            count++;
            isFound = false;
        }

        boolean allows(long[] numbers) {
            for (int p = 0; p < PLACES; p++) {
                if (!start[p].holds(numbers[p])) {
                    return false;
                }
            }
            return true;
        }

        int reachedLines() {
            int lines = 0;
            for (int line = 0; line < count; line++) {
                lines += reached[line] ? 1 : 0;
            }
            return lines;
        }

        int givenUpLines() {
            int lines = 0;
            for (int line = 0; line < count; line++) {
                if (reached[line] && ops[line] < NEGATE) {
                    Fact a = ahead[line * PLACES + firsts[line]];
                    Fact b = ahead[line * PLACES + seconds[line]];
                    lines += Acts.givesUp(ops[line], a, b) ? 1 : 0;
                }
            }
            return lines;
        }

        int constants() {
            int constants = 0;
            for (int at = 0; at < count * PLACES; at++) {
                constants += reached[at / PLACES] && ahead[at].isConstant() ? 1 : 0;
            }
            return constants;
        }
    }

    /** What a ROUND does at a LINE. Its rows serve all METHODS, one after the other. */
    private static final class Finder {
        private final Acts acts = new Acts();
        private final Fact[] coming = new Fact[PLACES];
        private final Fact scratch = new Fact();
        private final boolean[] waiting = new boolean[LINES];
        private final int[] lessened = new int[LINES * PLACES];
        private final int[] risen = new int[LINES * PLACES];

        Finder() {
            for (int p = 0; p < PLACES; p++) {
                coming[p] = new Fact();
            }
        }

        void begin(Routine routine) {
            routine.widened = 0;
            for (int line = 0; line < LINES; line++) {
                waiting[line] = false;
                routine.reached[line] = false;
            }
            for (int at = 0; at < LINES * PLACES; at++) {
                lessened[at] = 0;
                risen[at] = 0;
            }
            for (int p = 0; p < PLACES; p++) {
                coming[p].copy(routine.start[p]);
            }
            send(routine, 0);
        }

        boolean someWait() {
            for (int line = 0; line < LINES; line++) {
                if (waiting[line]) {
                    return true;
                }
            }
            return false;
        }

        void end(Routine routine) {
            if (someWait()) {
                reachAll(routine);
            }
            routine.isFound = true;
        }

        private static void reachAll(Routine routine) {
            for (int line = 0; line < routine.count; line++) {
                routine.reached[line] = true;
            }
            for (int at = 0; at < routine.count * PLACES; at++) {
                routine.ahead[at].makeAll();
            }
        }

        void workLine(Routine routine, Tables tables, int line) {
            if (!waiting[line]) {
                return;
            }
            // Ahead of the work, as a LINE that goes to itself may have to wait again by it.
            waiting[line] = false;
            fetch(routine, line);
            int op = routine.ops[line];
            int second = routine.seconds[line];
            int from = line * PLACES;
            Fact a = routine.ahead[from + routine.firsts[line]];
            Fact to = coming[routine.firsts[line]];
            switch (op) {
                case SET:
                    to.makeConstant(second);
                    break;
                case COPY:
                    to.copy(routine.ahead[from + second]);
                    break;
                case LOOK_UP:
                    lookUp(tables, second, a, to);
                    break;
                case SAME:
                case LESS:
                case BIT:
                    branch(routine, line, false);
                    send(routine, line + 1);
                    fetch(routine, line);
                    branch(routine, line, true);
                    send(routine, line + 2);
                    return;
                case GO:
                    send(routine, second);
                    return;
                case END:
                    return;
                default:
                    Fact b = routine.ahead[from + second];
                    acts.work(op, op < NEGATE ? a : b, b, to);
                    break;
            }
            send(routine, line + 1);
        }

        private void fetch(Routine routine, int line) {
            for (int p = 0; p < PLACES; p++) {
                coming[p].copy(routine.ahead[line * PLACES + p]);
            }
        }

        private void lookUp(Tables tables, int table, Fact place, Fact to) {
            to.makeNone();
            for (int i = 0; i < tables.sizes[table]; i++) {
                if (place.holds(i)) {
                    scratch.makeConstant(tables.numbers[table][i]);
                    to.becomeJoin(to, scratch);
                }
            }
        }

        /** b's fact goes in last, so that it is the one that stays where a and b are one PLACE. */
        private void branch(Routine routine, int line, boolean passed) {
            int op = routine.ops[line];
            int second = routine.seconds[line];
            int from = line * PLACES;
            Fact a = routine.ahead[from + routine.firsts[line]];
            Fact toA = coming[routine.firsts[line]];
            if (op == BIT) {
                learnBit(toA, 1L << second, passed);
                return;
            }
            Fact b = routine.ahead[from + second];
            Fact toB = coming[second];
            if (op == SAME && passed) {
                toA.becomeMeet(a, b);
                toB.copy(toA);
            } else if (op == SAME) {
                keepApart(a, b, toA);
                keepApart(b, a, toB);
            } else if (passed) {
                keepBelow(a, b, toA);
                keepAbove(b, a, toB);
            } else {
                keepFrom(a, b.low, toA);
                keepUpTo(b, a.high, toB);
            }
        }

        private static void learnBit(Fact to, long bit, boolean one) {
            long value = one ? bit : 0;
            if (((to.values ^ value) & to.known & bit) != 0) {
                to.makeNone();
                return;
            }
            to.known |= bit;
            to.values |= value;
            to.sharpen();
        }

        private static void keepApart(Fact fact, Fact other, Fact to) {
            to.copy(fact);
            if (!other.isConstant()) {
                return;
            }
            if (fact.isConstant()) {
                if (fact.low == other.low) {
                    to.makeNone();
                }
                return;
            }
            if (fact.low == other.low) {
                to.low++;
            }
            if (fact.high == other.low) {
                to.high--;
            }
            to.sharpen();
        }

        private static void keepBelow(Fact fact, Fact other, Fact to) {
            if (other.high == LEAST) {
                to.makeNone();
            } else {
                keepUpTo(fact, other.high - 1, to);
            }
        }

        private static void keepAbove(Fact fact, Fact other, Fact to) {
            if (other.low == GREATEST) {
                to.makeNone();
            } else {
                keepFrom(fact, other.low + 1, to);
            }
        }

        private static void keepFrom(Fact fact, long least, Fact to) {
            to.copy(fact);
            to.low = Math.max(fact.low, least);
            to.sharpen();
        }

        private static void keepUpTo(Fact fact, long greatest, Fact to) {
            to.copy(fact);
            to.high = Math.min(fact.high, greatest);
            to.sharpen();
        }

        private void send(Routine routine, int line) {
            if (line < 0 || line >= routine.count || someComeToNone()) {
                return;
            }
            boolean isNew = !routine.reached[line];
            boolean changed = isNew;
            for (int p = 0; p < PLACES; p++) {
                int at = line * PLACES + p;
                if (isNew) {
                    routine.ahead[at].copy(coming[p]);
                } else if (merge(routine, at, coming[p])) {
                    changed = true;
                }
            }
            routine.reached[line] = true;
            if (changed) {
                waiting[line] = true;
            }
        }

        private boolean someComeToNone() {
            for (int p = 0; p < PLACES; p++) {
                if (coming[p].none) {
                    return true;
                }
            }
            return false;
        }

        /** Whether the fact changed. */
        private boolean merge(Routine routine, int at, Fact more) {
            Fact was = routine.ahead[at];
            scratch.becomeJoin(was, more);
            if (scratch.none) {
                return false;
            }
            int widened = 0;
            if (scratch.low < was.low) {
                lessened[at]++;
                if (lessened[at] >= PATIENCE) {
                    scratch.low = LEAST;
                    widened++;
                }
            }
            if (scratch.high > was.high) {
                risen[at]++;
                if (risen[at] >= PATIENCE) {
                    scratch.high = GREATEST;
                    widened++;
                }
            }
            if (widened > 0) {
                routine.widened += widened;
                scratch.sharpen();
            }
            if (scratch.none || scratch.isLike(was)) {
                return false;
            }
            was.copy(scratch);
            return true;
        }
    }

    /** The latest run. */
    private static final class Run {
        final long[] numbers = new long[PLACES];
        int ended = NO_RUN;
        int next = 0;
        int wrongAt = BAD;

        int begin(Routine routine, Tables tables, long[] putIn, int most) {
            for (int p = 0; p < PLACES; p++) {
                numbers[p] = putIn[p];
            }
            next = 0;
            wrongAt = BAD;
            int done = 0;
            boolean goesOn = true;
            while (goesOn && done < most && next < routine.count) {
                look(routine);
                int following = step(routine, tables);
                goesOn = following != NO_LINE;
                if (goesOn) {
                    next = Math.min(following, routine.count);
                    done++;
                }
            }
            if (!goesOn) {
                ended = STOPPED;
            } else {
                ended = next < routine.count ? NO_LINES_LEFT : OVER;
            }
            return done;
        }

        private void look(Routine routine) {
            for (int p = 0; p < PLACES && wrongAt == BAD; p++) {
                int at = next * PLACES + p;
                if (!routine.reached[next] || !routine.ahead[at].holds(numbers[p])) {
                    wrongAt = at;
                }
            }
        }

        /** The LINE that follows, maybe behind the last; NO_LINE where this one STOPS the run. */
        private int step(Routine routine, Tables tables) {
            int op = routine.ops[next];
            int a = routine.firsts[next];
            int b = routine.seconds[next];
            switch (op) {
                case SET:
                    numbers[a] = b;
                    return next + 1;
                case COPY:
                    numbers[a] = numbers[b];
                    return next + 1;
                case LOOK_UP:
                    return lookUp(tables, a, b) ? next + 1 : NO_LINE;
                case SAME:
                    return numbers[a] == numbers[b] ? next + 2 : next + 1;
                case LESS:
                    return numbers[a] < numbers[b] ? next + 2 : next + 1;
                case BIT:
                    return (numbers[a] >>> b & 1) == 1 ? next + 2 : next + 1;
                case GO:
                    return b;
                case END:
                    return LINES;
                default:
                    return compute(op, a, b) ? next + 1 : NO_LINE;
            }
        }

        private boolean lookUp(Tables tables, int a, int table) {
            long place = numbers[a];
            if (!tables.has(table, place)) {
                return false;
            }
            numbers[a] = tables.numbers[table][(int) place];
            return true;
        }

        private boolean compute(int op, int a, int b) {
            if (Acts.stops(op, numbers[b])) {
                return false;
            }
            long first = op < NEGATE ? numbers[a] : numbers[b];
            numbers[a] = Acts.number(op, first, numbers[b]);
            return true;
        }
    }
}

import java.math.BigInteger;
import java.util.ArrayList;
import java.util.Arrays;
import java.util.List;

/**
 * The document once more, word by word, with big integers and one bit at a time, without a thought of speed: what
 * BitCongruences answers is compared with it.
 */
final class NaiveModel {
    static final int BAD = -1, FULL = -2, STATE = -3;
    static final BigInteger MIN = BigInteger.valueOf(Long.MIN_VALUE), MAX = BigInteger.valueOf(Long.MAX_VALUE);
    static final BigInteger ONE = BigInteger.ONE, ZERO = BigInteger.ZERO, TWO = BigInteger.TWO;

    /** Bits: 0, 1, or -1 where not known; a fact that is null is NONE. */
    static final class Known {
        final BigInteger low, high, m, rest;
        final int[] bits;

        Known(BigInteger low, BigInteger high, int[] bits, BigInteger m, BigInteger rest) {
            this.low = low;
            this.high = high;
            this.bits = bits.clone();
            this.m = m;
            this.rest = rest;
        }

        boolean constant() { return low.equals(high); }

        BigInteger m0() { return constant() ? ZERO : m; }

        BigInteger rest0() { return constant() ? low : rest; }

        boolean holds(long v) {
            BigInteger big = BigInteger.valueOf(v);
            return big.compareTo(low) >= 0 && big.compareTo(high) <= 0 && fits(big, bits) && big.mod(m).equals(rest);
        }

        boolean like(Known o) {
            return low.equals(o.low) && high.equals(o.high) && Arrays.equals(bits, o.bits) && m.equals(o.m)
                    && rest.equals(o.rest);
        }
    }

    static int[] noBits() { int[] b = new int[64]; Arrays.fill(b, -1); return b; }

    static int[] bitsOf(long v) { int[] b = new int[64]; for (int i = 0; i < 64; i++) b[i] = (int) (v >> i & 1); return b; }

    static boolean fits(BigInteger v, int[] bits) {
        for (int i = 0; i < 64; i++) if (bits[i] >= 0 && bits[i] != (v.testBit(i) ? 1 : 0)) return false;
        return true;
    }

    static boolean isLong(BigInteger v) { return v.compareTo(MIN) >= 0 && v.compareTo(MAX) <= 0; }

    static final Known ALL = new Known(MIN, MAX, noBits(), ONE, ZERO);

    static Known constant(long v) {
        BigInteger big = BigInteger.valueOf(v);
        return new Known(big, big, bitsOf(v), ONE, ZERO);
    }

    /** In steps of bits: turn bit q the way asked, keep those above, take the outermost below. */
    static BigInteger next(BigInteger from, int[] bits, boolean up) {
        if (fits(from, bits)) return from;
        for (int q = 0; q < 64; q++) {
            // bit 63 is the sign: it counts the other way round
            boolean heavy = from.testBit(q) != (q == 63);
            if (heavy == up) continue;
            long v = from.longValue() ^ 1L << q;
            for (int i = 0; i < q; i++) {
                int bit = bits[i] >= 0 ? bits[i] : up ? 0 : 1;
                v = v & ~(1L << i) | (long) bit << i;
            }
            BigInteger big = BigInteger.valueOf(v);
            if (fits(big, bits)) return big;
        }
        return null;
    }

    static Known sharpen(BigInteger low, BigInteger high, int[] known, BigInteger m, BigInteger rest) {
        int[] bits = known.clone();
        for (int time = 0; time < 6; time++) {
            BigInteger low0 = low, high0 = high;
            boolean changed = false;
            low = next(low, bits, true);
            high = next(high, bits, false);
            if (low == null || high == null || low.compareTo(high) > 0) return null;
            low = low.add(rest.subtract(low).mod(m));
            high = high.subtract(high.subtract(rest).mod(m));
            if (!isLong(low) || !isLong(high) || low.compareTo(high) > 0) return null;
            for (int i = 63; i >= 0 && low.testBit(i) == high.testBit(i); i--) {
                int bit = low.testBit(i) ? 1 : 0;
                if (bits[i] == 1 - bit) return null;
                changed |= bits[i] < 0;
                bits[i] = bit;
            }
            if (low.equals(high)) return constant(low.longValue());
            if (!changed && low.equals(low0) && high.equals(high0)) break;
        }
        return new Known(low, high, bits, m, rest);
    }

    static Known sharpen(Known k) { return k == null ? null : sharpen(k.low, k.high, k.bits, k.m, k.rest); }

    static BigInteger oddPart(BigInteger n) {
        if (n.signum() == 0) return ONE;
        while (!n.testBit(0)) n = n.shiftRight(1);
        return n.compareTo(BigInteger.valueOf(2147483647)) > 0 ? ONE : n;
    }

    static Known join(Known a, Known b) {
        if (a == null) return b;
        if (b == null) return a;
        if (a.constant() && b.constant() && a.low.equals(b.low)) return a;
        int[] bits = noBits();
        for (int i = 0; i < 64; i++) if (a.bits[i] == b.bits[i]) bits[i] = a.bits[i];
        BigInteger m = oddPart(a.m0().gcd(b.m0()).gcd(a.rest0().subtract(b.rest0()).abs()));
        return sharpen(a.low.min(b.low), a.high.max(b.high), bits, m, a.rest0().mod(m));
    }

    static Known meet(Known a, Known b) {
        if (a == null || b == null) return null;
        int[] bits = a.bits.clone();
        for (int i = 0; i < 64; i++) {
            if (a.bits[i] >= 0 && b.bits[i] >= 0 && a.bits[i] != b.bits[i]) return null;
            if (b.bits[i] >= 0) bits[i] = b.bits[i];
        }
        if (a.low.max(b.low).compareTo(a.high.min(b.high)) > 0) return null;
        Known by = b.m.compareTo(a.m) > 0 ? b : a;
        return sharpen(a.low.max(b.low), a.high.min(b.high), bits, by.m, by.rest);
    }

    // ---- acts

    static int[] addBits(int[] a, int[] b, int carry) {
        int[] sum = noBits();
        for (int i = 0; i < 64; i++) {
            if (a[i] >= 0 && b[i] >= 0 && carry >= 0) sum[i] = (a[i] + b[i] + carry) % 2;
            int ones = (a[i] == 1 ? 1 : 0) + (b[i] == 1 ? 1 : 0) + (carry == 1 ? 1 : 0);
            int zeros = (a[i] == 0 ? 1 : 0) + (b[i] == 0 ? 1 : 0) + (carry == 0 ? 1 : 0);
            carry = ones >= 2 ? 1 : zeros >= 2 ? 0 : -1;
        }
        return sum;
    }

    static int[] turn(int[] a) { int[] t = noBits(); for (int i = 0; i < 64; i++) if (a[i] >= 0) t[i] = 1 - a[i]; return t; }

    static int[] left(int[] a, int n) { int[] t = new int[64]; for (int i = n; i < 64; i++) t[i] = a[i - n]; return t; }

    static int[] right(int[] a, int n, int front) {
        int[] t = new int[64];
        for (int i = 0; i < 64; i++) t[i] = i + n < 64 ? a[i + n] : front;
        return t;
    }

    static int[] mulBits(int[] a, int[] b) {
        int[] sum = new int[64];
        for (int i = 0; i < 64; i++) {
            int[] more = b[i] == 0 ? new int[64] : left(a, i);
            if (b[i] < 0) for (int j = 0; j < 64; j++) if (more[j] == 1) more[j] = -1;
            sum = addBits(sum, more, 0);
        }
        return sum;
    }

    static Known ends(BigInteger[] told, int[] bits, BigInteger m, BigInteger rest) {
        BigInteger low = told[0], high = told[0];
        for (BigInteger t : told) {
            if (!isLong(t)) return sharpen(MIN, MAX, bits, ONE, ZERO);
            low = low.min(t);
            high = high.max(t);
        }
        return sharpen(low, high, bits, m, rest.mod(m));
    }

    static Long number(int op, long a, long b) {
        switch (op) {
            case 0: return a + b;
            case 1: return a - b;
            case 2: return a * b;
            case 3: return a & b;
            case 4: return a | b;
            case 5: return a ^ b;
            case 6: return a << b;
            case 7: return a >> b;
            case 8: return a >>> b;
            case 9: return b == 0 ? null : Long.valueOf(a / b);
            case 10: return b == 0 ? null : Long.valueOf(a % b);
            case 11: return (a ^ (a >>> 29)) * -4658895280553007687L + b;
            case 12: return -a;
            case 13: return ~a;
            case 14: return (long) (byte) a;
            case 15: return (long) (short) a;
            case 16: return (long) (int) a;
            case 17: return a & 255;
            case 18: return a & 65535;
            default: return a & 4294967295L;
        }
    }

    static boolean givenUp;

    static Known act(int op, Known a, Known b) {
        givenUp = false;
        if (a == null || op < 12 && b == null) return null;
        if (a.constant() && (op >= 12 || b.constant())) {
            Long v = number(op, a.low.longValue(), op >= 12 ? 0 : b.low.longValue());
            return v == null ? null : constant(v);
        }
        switch (op) {
            case 0: {
                BigInteger m = oddPart(a.m0().gcd(b.m0()));
                return ends(new BigInteger[] {a.low.add(b.low), a.high.add(b.high)}, addBits(a.bits, b.bits, 0), m,
                        a.rest0().add(b.rest0()));
            }
            case 1: {
                BigInteger m = oddPart(a.m0().gcd(b.m0()));
                return ends(new BigInteger[] {a.low.subtract(b.high), a.high.subtract(b.low)},
                        addBits(a.bits, turn(b.bits), 1), m, a.rest0().subtract(b.rest0()));
            }
            case 2: {
                BigInteger m = oddPart(a.m0().multiply(b.m0()).gcd(a.m0().multiply(b.rest0()).abs())
                        .gcd(b.m0().multiply(a.rest0()).abs()));
                return ends(new BigInteger[] {a.low.multiply(b.low), a.low.multiply(b.high), a.high.multiply(b.low),
                        a.high.multiply(b.high)}, mulBits(a.bits, b.bits), m, a.rest0().multiply(b.rest0()));
            }
            case 3: case 4: case 5: return bitwise(op, a, b);
            case 6: case 7: case 8: return shift(op, a, b);
            case 9: case 10:
                if (!b.constant() || b.low.signum() <= 0) { givenUp = true; return ALL; }
                return op == 10 ? remainder(a, b.low)
                        : sharpen(a.low.divide(b.low), a.high.divide(b.low), noBits(), ONE, ZERO);
            case 11: givenUp = true; return ALL;
            case 12: return act(1, constant(0), a);
            case 13: return sharpen(a.high.not(), a.low.not(), turn(a.bits), a.m, a.rest.not().mod(a.m));
            default: return narrow(op, a);
        }
    }

    static Known bitwise(int op, Known a, Known b) {
        int[] bits = noBits();
        for (int i = 0; i < 64; i++) {
            int seen = 0;
            for (int x = 0; x < 2; x++) for (int y = 0; y < 2; y++) {
                if (a.bits[i] == 1 - x || b.bits[i] == 1 - y) continue;
                seen |= 1 << (op == 3 ? x & y : op == 4 ? x | y : x ^ y);
            }
            if (seen != 3) bits[i] = seen - 1;
        }
        BigInteger high = MAX;
        if (op == 3 && a.low.signum() >= 0) high = high.min(a.high);
        if (op == 3 && b.low.signum() >= 0) high = high.min(b.high);
        return sharpen(MIN, high, bits, ONE, ZERO);
    }

    static Known shift(int op, Known a, Known b) {
        List<Integer> counts = new ArrayList<>();
        for (int n = 0; n < 64; n++) {
            boolean fit = true;
            for (int i = 0; i < 6; i++) fit &= b.bits[i] < 0 || b.bits[i] == (n >> i & 1);
            if (fit) counts.add(n);
        }
        if (counts.size() > 8) { givenUp = true; return ALL; }
        Known all = null;
        for (int n : counts) all = join(all, moved(op, a, n));
        return sharpen(all);
    }

    static Known moved(int op, Known a, int n) {
        if (n == 0) return a;
        if (a.constant()) return constant(number(op, a.low.longValue(), n));
        if (op == 6) {
            BigInteger by = TWO.pow(n);
            return ends(new BigInteger[] {a.low.multiply(by), a.high.multiply(by)}, left(a.bits, n), a.m,
                    a.rest.multiply(by));
        }
        if (op == 7) return sharpen(a.low.shiftRight(n), a.high.shiftRight(n), right(a.bits, n, a.bits[63]), ONE, ZERO);
        boolean oneSign = (a.low.signum() < 0) == (a.high.signum() < 0);
        long low = oneSign ? a.low.longValue() >>> n : 0;
        long high = oneSign ? a.high.longValue() >>> n : -1L >>> n;
        return sharpen(BigInteger.valueOf(low), BigInteger.valueOf(high), right(a.bits, n, 0), ONE, ZERO);
    }

    static Known remainder(Known a, BigInteger b) {
        if (b.negate().compareTo(a.low) < 0 && a.high.compareTo(b) < 0) return sharpen(a);
        BigInteger low = a.low.signum() >= 0 ? ZERO : a.low.max(ONE.subtract(b));
        BigInteger high = a.high.signum() <= 0 ? ZERO : a.high.min(b.subtract(ONE));
        BigInteger m = oddPart(a.m0().gcd(b));
        int[] bits = noBits();
        if (b.bitCount() == 1 && a.low.signum() >= 0)
            for (int i = 0; i < 64; i++) bits[i] = b.subtract(ONE).testBit(i) ? a.bits[i] : 0;
        return sharpen(low, high, bits, m, a.rest0().mod(m));
    }

    static Known narrow(int op, Known a) {
        int width = op % 3 == 2 ? 8 : op % 3 == 0 ? 16 : 32;
        boolean sign = op < 17;
        BigInteger least = sign ? TWO.pow(width - 1).negate() : ZERO;
        BigInteger most = TWO.pow(sign ? width - 1 : width).subtract(ONE);
        if (a.low.compareTo(least) >= 0 && a.low.compareTo(most) <= 0 && a.high.compareTo(least) >= 0
                && a.high.compareTo(most) <= 0) return sharpen(a);
        int[] bits = a.bits.clone();
        for (int i = width; i < 64; i++) bits[i] = sign ? a.bits[width - 1] : 0;
        return sharpen(least, most, bits, ONE, ZERO);
    }

    // ---- methods

    static final class Program {
        final List<int[]> lines = new ArrayList<>();
        final Known[] given = new Known[8];
        Known[][] found;      // null: nothing was found; a null row: not REACHED
        int[][] lesser, greater;
        boolean[] due;
        int widened;

        Program() { Arrays.fill(given, ALL); }
    }

    final Known[] facts = new Known[16];
    final List<Program> programs = new ArrayList<>();
    final List<List<Long>> tables = new ArrayList<>();
    final long[] putIn = new long[8];
    final long[] now = new long[8];
    int ended = 0, next = 0, wrong = BAD;

    NaiveModel() {
        Arrays.fill(facts, ALL);
        for (int t = 0; t < 4; t++) tables.add(new ArrayList<>());
    }

    static boolean in(int v, int size) { return v >= 0 && v < size; }

    int set(int f, Known k) { facts[f] = k; return k == null ? 0 : 1; }

    int fact(int f, long low, long high) {
        if (!in(f, 16)) return BAD;
        return set(f, sharpen(BigInteger.valueOf(low), BigInteger.valueOf(high), noBits(), ONE, ZERO));
    }

    int bits(int f, long known, long values) {
        if (!in(f, 16)) return BAD;
        int[] bits = noBits();
        for (int i = 0; i < 64; i++) if ((known >> i & 1) == 1) bits[i] = (int) (values >> i & 1);
        return set(f, meet(facts[f], sharpen(MIN, MAX, bits, ONE, ZERO)));
    }

    int rest(int f, int m, long r) {
        if (!in(f, 16) || m < 1 || m % 2 != 1) return BAD;
        BigInteger by = BigInteger.valueOf(m);
        return set(f, meet(facts[f], sharpen(MIN, MAX, noBits(), by, BigInteger.valueOf(r).mod(by))));
    }

    int act(int op, int a, int b, int to) {
        if (!in(op, 22) || !in(a, 16) || !in(b, 16) || !in(to, 16)) return BAD;
        Known x = facts[a], y = facts[b];
        return set(to, op == 20 ? join(x, y) : op == 21 ? meet(x, y) : act(op, x, y));
    }

    long told(int f, int what) {
        if (!in(f, 16) || !in(what, 7)) return 0;
        Known k = facts[f];
        if (k == null) return what == 6 ? 1 : 0;
        long known = 0, values = 0;
        for (int i = 0; i < 64; i++) {
            if (k.bits[i] >= 0) known |= 1L << i;
            if (k.bits[i] == 1) values |= 1L << i;
        }
        return new long[] {k.low.longValue(), k.high.longValue(), known, values, k.m.longValue(), k.rest.longValue(), 0}[what];
    }

    boolean isOf(int f, long v) { return in(f, 16) && facts[f] != null && facts[f].holds(v); }

    int method() {
        if (programs.size() == 6) return FULL;
        programs.add(new Program());
        return programs.size() - 1;
    }

    int op(int method, int op, int a, int b) {
        if (!in(method, programs.size()) || !in(op, 28)) return BAD;
        boolean right = in(a, 8) && in(b, 8);
        if (op == 20) right = in(a, 8);
        if (op == 22) right = in(a, 8) && in(b, 4);
        if (op == 25) right = in(a, 8) && in(b, 64);
        if (op == 26) right = a == 0 && in(b, 33);
        if (op == 27) right = a == 0 && b == 0;
        if (!right) return BAD;
        Program p = programs.get(method);
        if (p.lines.size() == 32) return FULL;
        p.lines.add(new int[] {op, a, b});
        p.found = null;
        return p.lines.size() - 1;
    }

    int table(int t, long v) {
        if (!in(t, 4)) return BAD;
        if (tables.get(t).size() == 16) return FULL;
        tables.get(t).add(v);
        for (Program p : programs) p.found = null;
        return tables.get(t).size();
    }

    int given(int method, int place, int f) {
        if (!in(method, programs.size()) || !in(place, 8) || !in(f, 16)) return BAD;
        if (facts[f] == null) return STATE;
        programs.get(method).given[place] = facts[f];
        programs.get(method).found = null;
        return 1;
    }

    int find(int method) {
        if (!in(method, programs.size())) return BAD;
        Program p = programs.get(method);
        int n = p.lines.size();
        p.found = new Known[n][];
        p.lesser = new int[n][8];
        p.greater = new int[n][8];
        p.due = new boolean[n];
        p.widened = 0;
        goes(p, 0, p.given.clone());
        int rounds = 0;
        while (isDue(p) && rounds < 30) {
            rounds++;
            for (int line = 0; line < n; line++) if (p.due[line]) work(p, line);
        }
        if (isDue(p)) {
            for (int line = 0; line < n; line++) {
                p.found[line] = new Known[8];
                Arrays.fill(p.found[line], ALL);
            }
        }
        return rounds;
    }

    static boolean isDue(Program p) {
        for (boolean d : p.due) if (d) return true;
        return false;
    }

    void work(Program p, int line) {
        p.due[line] = false;
        int op = p.lines.get(line)[0], a = p.lines.get(line)[1], b = p.lines.get(line)[2];
        Known[] were = p.found[line].clone();
        Known[] come = were.clone();
        if (op == 27) return;
        if (op == 26) { goes(p, b, come); return; }
        if (op >= 23) {
            for (int passed = 0; passed < 2; passed++) {
                come = were.clone();
                if (op == 25) {
                    come[a] = withBit(were[a], b, passed);
                } else {
                    come[a] = op == 23 ? same(were[a], were[b], passed == 1, true) : less(were[a], were[b], passed == 1, true);
                    come[b] = op == 23 ? same(were[a], were[b], passed == 1, false) : less(were[a], were[b], passed == 1, false);
                }
                goes(p, line + 1 + passed, come);
            }
            return;
        }
        if (op < 12) come[a] = act(op, were[a], were[b]);
        else if (op < 20) come[a] = act(op, were[b], null);
        else if (op == 20) come[a] = constant(b);
        else if (op == 21) come[a] = were[b];
        else {
            come[a] = null;
            for (int i = 0; i < tables.get(b).size(); i++)
                if (were[a].holds(i)) come[a] = join(come[a], constant(tables.get(b).get(i)));
        }
        goes(p, line + 1, come);
    }

    static Known withBit(Known k, int bit, int value) {
        if (k.bits[bit] == 1 - value) return null;
        int[] bits = k.bits.clone();
        bits[bit] = value;
        return sharpen(k.low, k.high, bits, k.m, k.rest);
    }

    static Known same(Known a, Known b, boolean passed, boolean first) {
        if (passed) return meet(a, b);
        Known mine = first ? a : b, other = first ? b : a;
        if (!other.constant()) return mine;
        if (mine.constant()) return mine.low.equals(other.low) ? null : mine;
        BigInteger low = mine.low.equals(other.low) ? mine.low.add(ONE) : mine.low;
        BigInteger high = mine.high.equals(other.low) ? mine.high.subtract(ONE) : mine.high;
        return sharpen(low, high, mine.bits, mine.m, mine.rest);
    }

    static Known less(Known a, Known b, boolean passed, boolean first) {
        BigInteger low = first ? a.low : b.low, high = first ? a.high : b.high;
        if (passed && first) high = high.min(b.high.subtract(ONE));
        if (passed && !first) low = low.max(a.low.add(ONE));
        if (!passed && first) low = low.max(b.low);
        if (!passed && !first) high = high.min(a.high);
        if (low.compareTo(high) > 0) return null;
        Known k = first ? a : b;
        return sharpen(low, high, k.bits, k.m, k.rest);
    }

    static void goes(Program p, int line, Known[] come) {
        if (line >= p.lines.size()) return;
        for (Known k : come) if (k == null) return;
        if (p.found[line] == null) {
            p.found[line] = come.clone();
            p.due[line] = true;
            return;
        }
        for (int place = 0; place < 8; place++) {
            Known was = p.found[line][place];
            Known both = join(was, come[place]);
            if (both == null) continue;
            BigInteger low = both.low, high = both.high;
            boolean wide = false;
            if (low.compareTo(was.low) < 0 && ++p.lesser[line][place] >= 4) { low = MIN; wide = true; p.widened++; }
            if (high.compareTo(was.high) > 0 && ++p.greater[line][place] >= 4) { high = MAX; wide = true; p.widened++; }
            if (wide) both = sharpen(low, high, both.bits, both.m, both.rest);
            if (both == null || both.like(was)) continue;
            p.found[line][place] = both;
            p.due[line] = true;
        }
    }

    int found(int method, int line, int place, int f) {
        if (!in(method, programs.size()) || !in(line, programs.get(method).lines.size()) || !in(place, 8) || !in(f, 16)) return BAD;
        Program p = programs.get(method);
        if (p.found == null) return STATE;
        return set(f, p.found[line] == null ? null : p.found[line][place]);
    }

    int sum(int method, int what) {
        if (!in(method, programs.size()) || !in(what, 4)) return BAD;
        Program p = programs.get(method);
        if (p.found == null) return STATE;
        int reached = 0, up = 0, constants = 0;
        for (int line = 0; line < p.lines.size(); line++) {
            if (p.found[line] == null) continue;
            reached++;
            int[] l = p.lines.get(line);
            if (l[0] < 12) {
                act(l[0], p.found[line][l[1]], p.found[line][l[2]]);
                if (givenUp) up++;
            }
            for (Known k : p.found[line]) if (k.constant()) constants++;
        }
        return new int[] {reached, up, constants, p.widened}[what];
    }

    long put(int place, long v) {
        if (!in(place, 8)) return 0;
        long was = putIn[place];
        putIn[place] = v;
        return was;
    }

    int walk(int method, int lines) {
        if (!in(method, programs.size()) || !in(lines, 1001)) return BAD;
        Program p = programs.get(method);
        if (p.found == null) return STATE;
        for (int i = 0; i < 8; i++) if (!p.given[i].holds(putIn[i])) return STATE;
        System.arraycopy(putIn, 0, now, 0, 8);
        int n = p.lines.size(), at = 0, done = 0;
        wrong = BAD;
        ended = 0;
        while (ended == 0) {
            if (at >= n) { at = n; ended = 1; break; }
            if (done == lines) { ended = 3; break; }
            for (int i = 7; i >= 0; i--)
                if (wrong == BAD || wrong / 8 == at)
                    if (p.found[at] == null || !p.found[at][i].holds(now[i])) wrong = 8 * at + i;
            int op = p.lines.get(at)[0], a = p.lines.get(at)[1], b = p.lines.get(at)[2], to = at + 1;
            if (op < 20) {
                Long v = number(op, now[op < 12 ? a : b], now[b]);
                if (v == null) { ended = 2; break; }
                now[a] = v;
            }
            if (op == 20) now[a] = b;
            if (op == 21) now[a] = now[b];
            if (op == 22) {
                if (now[a] < 0 || now[a] >= tables.get(b).size()) { ended = 2; break; }
                now[a] = tables.get(b).get((int) now[a]);
            }
            if (op == 23 && now[a] == now[b] || op == 24 && now[a] < now[b] || op == 25 && (now[a] >> b & 1) == 1) to++;
            if (op == 26) to = b;
            if (op == 27) to = n;
            at = to;
            done++;
        }
        next = at;
        return done;
    }

    long now(int place) { return in(place, 8) ? now[place] : 0; }

    int ran(int what) { return what == 0 ? ended : what == 1 ? next : what == 2 ? wrong : BAD; }
}

/** Each sentence of '2 ACTS' that names a bound, by answers worked out by hand. What comes goes to FACT 9. */
public final class ActBoundsTest extends Bounds {
    private static final int PRIME = 2147483647;
    private static final long HALF = 1L << 62;

    private static void modulo(int f, long low, long high, int m, long r) {
        between(f, low, high);
        by(f, m, r, 1);
    }

    private static void whatCountsForAll() {
        says("of 12 and above b does not count");
        nothing(0);
        between(1, -4, 9);
        number(2, -4);
        for (int op = 12; op < 20; op++) {
            act(op, 1, 0, 9, 1);
            act(op, 2, 0, 9, 1);
        }
        says("of NONE: NONE");
        nothing(0);
        number(1, 3);
        between(2, 3, 4);
        for (int op = 0; op < 20; op++) {
            number(9, 1);
            act(op, 0, 1, 9, 0);
            isNone(9);
            if (op < 12) {
                act(op, 1, 0, 9, 0);
                act(op, 2, 0, 9, 0);
            }
        }
        says("of CONSTANTS (for 12 and above of a CONSTANT) the CONSTANT that comes");
        long a = -0x123456789ABCDEFL;
        number(0, a);
        number(1, 71);
        long[] come = {a + 71, a - 71, a * 71, a & 71, a | 71, a ^ 71, a << 71, a >> 71, a >>> 71, a / 71, a % 71,
            (a ^ a >>> 29) * -4658895280553007687L + 71, -a, ~a, (byte) a, (short) a, (int) a, a & 255, a & 65535, a & 4294967295L};
        for (int op = 0; op < 20; op++) {
            act(op, 0, op < 12 ? 1 : 5, 9, 1);
            isNumber(9, come[op]);
        }
        number(1, 1);
        act(9, 0, 1, 9, 1);
        isNumber(9, a);
        act(10, 0, 1, 9, 1);
        isNumber(9, 0);
        says("(9, 10 by 0: NONE)");
        number(0, 0);
        for (long v : new long[] {0, 1, MIN, MAX}) {
            number(1, v);
            act(9, 1, 0, 9, 0);
            isNone(9);
            act(10, 1, 0, 9, 0);
            isNone(9);
        }
        says("and SHARPENED (also where it is a itself, or a JOIN, which was SHARPENED as well)");
        unfinished(0);
        number(1, 64);
        number(2, 20000);
        // a itself: moved by 0, by % of more than it can be, by what it fits in
        int[][] same = {{6, 1}, {7, 1}, {8, 1}, {10, 2}, {15, 1}, {16, 1}, {18, 1}, {19, 1}};
        for (int[] s : same) {
            act(s[0], 0, s[1], 9, 1);
            isBetween(9, 211, 9856, 15, 1);
        }
        act(20, 0, 0, 9, 1);
        isBetween(9, 211, 9856, 15, 1);
        // sixteens that are 0 by 15, from 105 on, JOINED with these moved by 1: LOW is 195 by the JOIN, 240 by the act
        between(3, 1, 9600);
        known(3, 15, 0, 1);
        by(3, 15, 0, 1);
        isBetween(3, 105, 9600, 15, 0);
        between(4, 0, 1);
        act(6, 3, 4, 9, 1);
        isBetween(9, 240, 19200, 15, 0);
    }

    private static void sums() {
        says("0 a + b: ends: both LOWS, both HIGHS together");
        between(0, MAX - 10, MAX - 5);
        between(1, 0, 5);
        act(0, 0, 1, 9, 1);
        isBetween(9, MAX - 10, MAX, 1, 0);
        between(1, 0, 6);
        act(0, 0, 1, 9, 1);
        isAll(9);
        act(0, 1, 0, 9, 1);
        isAll(9);
        between(0, MIN + 5, MIN + 10);
        between(1, -5, 0);
        act(0, 0, 1, 9, 1);
        isBetween(9, MIN, MIN + 10, 1, 0);
        between(1, -6, 0);
        act(0, 0, 1, 9, 1);
        isAll(9);
        says("they WRAP, if one of those told is no long: then LOW, HIGH are ALL's and M is 1");
        // the greatest long is 2 by 5
        modulo(0, MAX - 20, MAX, 5, 2);
        number(1, 0);
        act(0, 0, 1, 9, 1);
        isBetween(9, MAX - 20, MAX, 5, 2);
        number(1, 1);
        act(0, 0, 1, 9, 1);
        isAll(9);
        between(0, MAX - 7, MAX);
        known(0, 1, 1, 1);
        number(1, 4);
        act(0, 0, 1, 9, 1);
        isFact(9, MIN + 1, MAX, 1, 1, 1, 0);
        says("M THE ODD PART of the GCD of both Ms, REST that of both RESTS together");
        modulo(0, 0, 100, 9, 8);
        modulo(1, 0, 100, 15, 14);
        act(0, 0, 1, 9, 1);
        isBetween(9, 22, 187, 3, 1);
        modulo(0, 0, 100, 7, 6);
        act(0, 0, 1, 9, 1);
        due("M of 7 and 15", x.told(9, 4), 1);
        modulo(0, 0, 3L * PRIME, PRIME, PRIME - 1);
        act(0, 0, 0, 9, 1);
        isBetween(9, 2L * PRIME - 2, 6L * PRIME - 2, PRIME, PRIME - 2);
        says("with a carry (0 at first): a bit is KNOWN, if those of a, b and the carry are; the next carry is 1 (0), if two of these three, or all, are KNOWN to be 1 (0)");
        // ?011 and ?001: 1 + 1, 1 + 0 with the carry 1, 0 + 0 with 1
        known(0, 7, 3, 1);
        known(1, 7, 1, 1);
        act(0, 0, 1, 9, 1);
        isFact(9, MIN + 4, MAX - 3, 7, 4, 1, 0);
        // 0?0 and 0?0: the carry into bit 2 is not known, that into bit 3 is 0
        known(2, 13, 0, 1);
        act(0, 2, 2, 9, 1);
        due("KNOWN of 00?0 twice", x.told(9, 2) & 15, 9);
        // 1?0 and 1?0: bit 2 not known, the carry into bit 3 is 1, whatever
        known(3, 13, 4, 1);
        act(0, 3, 3, 9, 1);
        due("KNOWN of 01?0 twice", x.told(9, 2) & 15, 9);
        due("values of 01?0 twice", x.told(9, 3) & 15, 8);
        // the carry 1 goes all through: -1 + 1
        known(4, 3, 3, 1);
        number(5, 1);
        act(0, 4, 5, 9, 1);
        isFact(9, MIN, MAX - 3, 3, 0, 1, 0);
    }

    private static void differences() {
        says("1 a - b: ends LOW less HIGH, HIGH less LOW");
        between(0, MIN + 5, MIN + 10);
        between(1, 0, 5);
        act(1, 0, 1, 9, 1);
        isBetween(9, MIN, MIN + 10, 1, 0);
        between(1, 0, 6);
        act(1, 0, 1, 9, 1);
        isAll(9);
        between(0, MAX - 10, MAX - 5);
        between(1, -5, 0);
        act(1, 0, 1, 9, 1);
        isBetween(9, MAX - 10, MAX, 1, 0);
        between(1, -6, 0);
        act(1, 0, 1, 9, 1);
        isAll(9);
        number(0, 0);
        between(1, MIN, MIN + 1);
        act(1, 0, 1, 9, 1);
        isAll(9);
        number(0, -1);
        act(1, 0, 1, 9, 1);
        isFact(9, MAX - 1, MAX, ~1L, MAX - 1, 1, 0);
        says("M as 0, REST of the difference");
        modulo(0, 0, 30, 15, 1);
        modulo(1, 0, 30, 9, 2);
        act(1, 0, 1, 9, 1);
        isBetween(9, -28, 14, 3, 2);
        modulo(0, MIN, MIN + 20, 5, 2);
        number(1, 1);
        act(1, 0, 1, 9, 1);
        isAll(9);
        says("bits as of a + (b with all bits turned), with the first carry 1");
        known(0, 7, 2, 1);
        known(1, 7, 3, 1);
        act(1, 0, 1, 9, 1);
        isFact(9, MIN + 7, MAX, 7, 7, 1, 0);
        known(2, 1, 1, 1);
        act(1, 2, 2, 9, 1);
        isFact(9, MIN, MAX - 1, 1, 0, 1, 0);
    }

    private static void products() {
        says("2 a * b: ends the least and greatest of the four products of ends (WRAP: one of the four is no long)");
        between(0, -3, 2);
        between(1, -4, 5);
        act(2, 0, 1, 9, 1);
        isBetween(9, -15, 12, 1, 0);
        for (int i = 0; i < 4; i++) {
            between(0, i < 2 ? -HALF : -1, i < 2 ? 1 : HALF);
            between(1, i % 2 == 0 ? -3 : -1, i % 2 == 0 ? 1 : 3);
            act(2, 0, 1, 9, 1);
            isAll(9);
        }
        between(0, -1, HALF);
        between(1, -2, 1);
        act(2, 0, 1, 9, 1);
        isBetween(9, MIN, HALF, 1, 0);
        between(0, -HALF, 1);
        act(2, 0, 1, 9, 1);
        isAll(9);
        between(0, MIN, 1);
        between(1, -1, 1);
        act(2, 0, 1, 9, 1);
        isAll(9);
        act(2, 1, 0, 9, 1);
        isAll(9);
        // by -1 only the least long wraps, by 1 it does not
        between(0, MIN + 1, 1);
        act(2, 0, 1, 9, 1);
        isBetween(9, MIN + 1, MAX, 1, 0);
        act(2, 1, 0, 9, 1);
        isBetween(9, MIN + 1, MAX, 1, 0);
        between(0, MIN, 0);
        between(1, 0, 1);
        act(2, 0, 1, 9, 1);
        isBetween(9, MIN, 0, 1, 0);
        number(0, MIN);
        between(1, 0, 1);
        act(2, 0, 1, 9, 1);
        isFact(9, MIN, 0, MAX, 0, 1, 0);
        says("M: THE ODD PART of the GCD of M M', M times the other's REST, M' times the one's REST");
        modulo(0, 0, 100, 3, 1);
        modulo(1, 0, 100, 5, 2);
        act(2, 0, 1, 9, 1);
        isBetween(9, 2, 9700, 1, 0);
        modulo(0, 0, 100, 9, 3);
        modulo(1, 0, 100, 15, 6);
        act(2, 0, 1, 9, 1);
        isBetween(9, 18, 93 * 96, 9, 0);
        // 32767 * 65535 is below the greatest M, 32769 * 65535 above
        modulo(0, 0, 3 * 32767, 32767, 0);
        modulo(1, 0, 3 * 65535, 65535, 0);
        act(2, 0, 1, 9, 1);
        isBetween(9, 0, 9 * 32767L * 65535, 32767 * 65535, 0);
        modulo(0, 0, 3 * 32769, 32769, 0);
        act(2, 0, 1, 9, 1);
        isBetween(9, 0, 9 * 32769L * 65535, 1, 0);
        says("(0, that is of CONSTANTS, does not come here); REST that of both RESTS multiplied");
        modulo(0, 0, 30, 5, 2);
        number(1, -3);
        act(2, 0, 1, 9, 1);
        isBetween(9, -81, -6, 15, 9);
        act(2, 1, 0, 9, 1);
        isBetween(9, -81, -6, 15, 9);
        between(0, -3, 2);
        for (long v : new long[] {PRIME, 2L * PRIME}) {
            number(1, v);
            act(2, 0, 1, 9, 1);
            isBetween(9, -3 * v, 2 * v, PRIME, 0);
        }
        number(1, PRIME + 2L);
        act(2, 0, 1, 9, 1);
        isBetween(9, -3 * (PRIME + 2L), 2 * (PRIME + 2L), 1, 0);
        // 3 * 2 ^ 62 is above the greatest long
        modulo(0, -2, 1, 3, 1);
        number(1, HALF);
        act(2, 0, 1, 9, 1);
        isFact(9, MIN, HALF, HALF - 1, 0, 3, 1);
        // an end that is no long: M is 1
        number(1, -HALF - 1);
        act(2, 0, 1, 9, 1);
        due("M", x.told(9, 4), 1);
        says("if it is not known, of a moved so, all of whose bits that are 1 are not known");
        // 1 or 3 times 5: 5 + 0 or 10
        number(0, 5);
        between(1, 1, 3);
        known(1, 1, 1, 1);
        act(2, 0, 1, 9, 1);
        isBetween(9, 5, 15, 5, 0);
        due("KNOWN of 5 times 01?1", x.told(9, 2) & 15, 5);
        due("values of 5 times 01?1", x.told(9, 3) & 15, 5);
        between(0, 0, 7);
        number(1, MIN);
        act(2, 0, 1, 9, 1);
        isFact(9, MIN, 0, MAX, 0, 1, 0);
    }

    private static void bits() {
        says("3 &, 4 |, 5 ^: bits: what is so whatever the bits not known are, bit by bit");
        known(1, 3, 2, 1);
        act(3, 0, 1, 9, 1);
        isFact(9, MIN, MAX - 1, 1, 0, 1, 0);
        act(4, 0, 1, 9, 1);
        isFact(9, MIN + 2, MAX, 2, 2, 1, 0);
        act(5, 0, 1, 9, 1);
        isAll(9);
        known(0, 3, 1, 1);
        int[] values = {0, 3, 3};
        for (int op = 3; op < 6; op++) {
            act(op, 0, 1, 9, 1);
            due("KNOWN", x.told(9, 2), 3);
            due("values", x.told(9, 3), values[op - 3]);
        }
        says("3: HIGH is at most that of a, if a's LOW is 0 or more, and of b likewise");
        between(0, 0, 100);
        between(1, -5, 5);
        act(3, 0, 1, 9, 1);
        isBetween(9, 0, 100, 1, 0);
        act(3, 1, 0, 9, 1);
        isBetween(9, 0, 100, 1, 0);
        between(1, 0, 37);
        act(3, 0, 1, 9, 1);
        isBetween(9, 0, 37, 1, 0);
        act(3, 1, 0, 9, 1);
        isBetween(9, 0, 37, 1, 0);
        between(0, -1, 100);
        between(1, -1, 37);
        act(3, 0, 1, 9, 1);
        isAll(9);
        between(0, 0, 100);
        between(1, 0, 37);
        for (int op = 4; op < 6; op++) {
            act(op, 0, 1, 9, 1);
            isBetween(9, 0, 127, 1, 0);
        }
    }

    private static void counts() {
        says("b's lowest 6 bits are the count");
        modulo(0, 40, 50, 3, 1);
        long[][] counts = {{64, 0}, {-64, 0}, {65, 1}, {-63, 1}, {66, 2}, {MIN, 0}, {MIN + 1, 1}};
        for (long[] c : counts) {
            number(1, c[0]);
            act(7, 0, 1, 9, 1);
            isBetween(9, 40 >> c[1], 49 >> c[1], c[1] == 0 ? 3 : 1, c[1] == 0 ? 1 : 0);
        }
        between(0, -9, 9);
        number(1, -1);
        act(8, 0, 1, 9, 1);
        isBetween(9, 0, 1, 1, 0);
        // what is not known above them does not matter
        known(2, 63, 3, 1);
        between(0, 40, 50);
        act(7, 0, 2, 9, 1);
        isBetween(9, 5, 6, 1, 0);
        says("If more than 8 counts fit those of them that are KNOWN: ALL, GIVEN UP");
        number(0, 1);
        between(1, 40, 50);
        between(2, 8, 15);
        act(6, 0, 2, 9, 1);
        isFact(9, 256, 1 << 15, ~0xFF00L, 0, 1, 0);
        between(2, 0, 15);
        for (int op = 6; op < 9; op++) {
            act(op, 0, 2, 9, 1);
            isAll(9);
            act(op, 1, 2, 9, 1);
            isAll(9);
        }
        // bits 3 to 5 not known: 5, 13, .. 61; one more not known: 16 counts, though they are not one behind the other
        known(3, 7, 5, 1);
        act(6, 0, 3, 9, 1);
        isBetween(9, 32, 1L << 61, 255, 32);
        known(4, 3, 1, 1);
        act(6, 0, 4, 9, 1);
        isAll(9);
        says("for each count that fits, from the least on, a moved by it, and these JOINED, one behind the other");
        number(0, 12);
        between(1, 0, 7);
        act(6, 0, 1, 9, 1);
        isFact(9, 12, 12 << 7, ~0x7FFL | 3, 0, 3, 0);
        between(0, 40, 50);
        between(1, 0, 1);
        act(7, 0, 1, 9, 1);
        isBetween(9, 20, 50, 1, 0);
        // 2 .. 3: not 0, not 1
        between(1, 2, 3);
        act(7, 0, 1, 9, 1);
        isBetween(9, 5, 12, 1, 0);
        says("Moved by 0 it is a; a CONSTANT moved is one");
        modulo(0, -9, 9, 5, 1);
        number(1, 0);
        for (int op = 6; op < 9; op++) {
            act(op, 0, 1, 9, 1);
            isBetween(9, -9, 6, 5, 1);
        }
        number(0, MIN);
        known(2, 63, 63, 1);
        long[] one = {0, -1, 1};
        for (int op = 6; op < 9; op++) {
            act(op, 0, 2, 9, 1);
            isNumber(9, one[op - 6]);
        }
    }

    private static void shifts() {
        says("<<: ends moved (WRAP: one, moved back, is another), M as it was, REST that of REST times 2 to the count; bits moved, 0s behind");
        number(1, 1);
        long[][] ends = {{0, HALF - 1, 0, MAX - 1}, {0, HALF, MIN, MAX - 1}, {-HALF, 0, MIN, 0}, {-HALF - 1, 0, MIN, MAX - 1}};
        for (long[] e : ends) {
            between(0, e[0], e[1]);
            act(6, 0, 1, 9, 1);
            isBetween(9, e[2], e[3], 1, 0);
            due("KNOWN", x.told(9, 2) & 1, 1);
        }
        modulo(0, 0, HALF + 4, 5, 3);
        act(6, 0, 1, 9, 1);
        isBetween(9, MIN, MAX - 1, 1, 0);
        modulo(0, 0, 10, 5, 1);
        number(1, 3);
        act(6, 0, 1, 9, 1);
        isFact(9, 8, 48, ~63L | 7, 0, 5, 3);
        known(2, 3, 1, 1);
        number(1, 2);
        act(6, 2, 1, 9, 1);
        isFact(9, MIN + 4, MAX - 11, 15, 4, 1, 0);
        modulo(0, -1, 2, 3, 2);
        number(1, 61);
        act(6, 0, 1, 9, 1);
        isBetween(9, -(1L << 61), HALF, 3, 1);
        modulo(0, -2, 1, 3, 1);
        number(1, 62);
        act(6, 0, 1, 9, 1);
        isBetween(9, MIN, HALF, 3, 1);
        number(1, 63);
        between(0, -1, 0);
        act(6, 0, 1, 9, 1);
        isFact(9, MIN, 0, MAX, 0, 1, 0);
        between(0, 0, 1);
        act(6, 0, 1, 9, 1);
        isFact(9, MIN, 0, MAX, 0, 1, 0);
        says(">>: ends moved; bits moved, in front copies of the highest one, KNOWN or not");
        number(1, 2);
        long[][] right = {{-16, 15, -4, 3, 0, 0}, {-16, -1, -4, -1, ~3L, ~3L}, {-16, -5, -4, -2, ~3L, ~3L}, {0, 15, 0, 3, ~3L, 0}};
        for (long[] r : right) {
            between(0, r[0], r[1]);
            act(7, 0, 1, 9, 1);
            isFact(9, r[2], r[3], r[4], r[5], 1, 0);
        }
        known(2, 12, 4, 1);
        act(7, 2, 1, 9, 1);
        isFact(9, (MIN >> 2) + 1, (MAX >> 2) - 2, 3, 1, 1, 0);
        number(1, 63);
        act(7, 3, 1, 9, 1);
        isFact(9, -1, 0, 0, 0, 1, 0);
        says(">>>: ends moved, if both are 0 and more, or both below 0; else 0, and -1 moved so; bits moved, 0s in front");
        long[][] zeros = {{0, 100, 3, 0, 12}, {-64, -32, 4, -64L >>> 4, -32L >>> 4}, {-1, 0, 1, 0, MAX}, {-1, 0, 63, 0, 1}, {MIN, -1, 1, HALF, MAX},
            {-5, 5, 60, 0, 15}, {0, MAX, 63, 0, 0}, {MIN, -1, 63, 1, 1}, {MIN + 5, -1, 1, HALF + 2, MAX}, {MIN + 5, -7, 1, HALF + 2, MAX - 3}};
        for (long[] z : zeros) {
            between(0, z[0], z[1]);
            number(1, z[2]);
            act(8, 0, 1, 9, 1);
            isBetween(9, z[3], z[4], 1, 0);
        }
        number(1, 2);
        act(8, 2, 1, 9, 1);
        isFact(9, 0, HALF - 1, ~(HALF - 1), 0, 1, 0);
        known(2, 12, 4, 1);
        act(8, 2, 1, 9, 1);
        isFact(9, 1, HALF - 3, ~(HALF - 1) | 3, 1, 1, 0);
        says("others moved are SHARPENED");
        // 100 in front of two or of three: from 4 on, and, 10 moved out of it, from 2 on
        known(0, 28, 16, 1);
        between(1, 2, 3);
        act(8, 0, 1, 9, 1);
        isFact(9, 2, HALF - 4, ~(HALF - 1) | 1, 0, 1, 0);
    }

    private static void divisions() {
        says("9 a / b, by a CONSTANT b above 0: both ends divided (toward 0)");
        long[][] ends = {{-25, 99, 10, -2, 9}, {-9, 9, 10, 0, 0}, {-10, 10, 10, -1, 1}, {2, 97, 1, 2, 97}, {MIN, MAX, MAX, -1, 1}, {MIN, MAX, 2, -HALF, HALF - 1}};
        for (long[] e : ends) {
            between(0, e[0], e[1]);
            number(1, e[2]);
            act(9, 0, 1, 9, 1);
            isBetween(9, e[3], e[4], 1, 0);
        }
        modulo(0, 2, 97, 5, 2);
        number(1, 1);
        act(9, 0, 1, 9, 1);
        isBetween(9, 2, 97, 1, 0);
        says("9, 10 by others: ALL; it is GIVEN UP");
        between(0, 3, 9);
        number(1, 7);
        for (long v : new long[] {0, -1, -3, MIN}) {
            number(2, v);
            act(9, 0, 2, 9, 1);
            isAll(9);
            act(10, 0, 2, 9, 1);
            isAll(9);
        }
        between(2, 1, 2);
        for (int op = 9; op < 11; op++) {
            act(op, 0, 2, 9, 1);
            isAll(9);
            act(op, 1, 2, 9, 1);
            isAll(9);
        }
    }

    private static void remainders() {
        says("10 a % b, by such a one: a itself, if -b < LOW and HIGH < b");
        number(1, 10);
        modulo(0, -9, 9, 3, 0);
        act(10, 0, 1, 9, 1);
        isBetween(9, -9, 9, 3, 0);
        modulo(0, -12, 9, 3, 0);
        act(10, 0, 1, 9, 1);
        isBetween(9, -9, 9, 1, 0);
        modulo(0, -9, 12, 3, 0);
        act(10, 0, 1, 9, 1);
        isBetween(9, -9, 9, 1, 0);
        between(0, -10, 9);
        act(10, 0, 1, 9, 1);
        isBetween(9, -9, 9, 1, 0);
        between(0, -9, 10);
        act(10, 0, 1, 9, 1);
        isBetween(9, -9, 9, 1, 0);
        number(1, MAX);
        between(0, MIN + 2, MAX - 1);
        act(10, 0, 1, 9, 1);
        isBetween(9, MIN + 2, MAX - 1, 1, 0);
        between(0, MIN, MAX);
        act(10, 0, 1, 9, 1);
        isBetween(9, MIN + 2, MAX - 1, 1, 0);
        says("else LOW is 0, if a's is 0 or more, else the greater of a's and 1 - b");
        number(1, 10);
        for (long[] low : new long[][] {{3, 0}, {0, 0}, {-1, -1}, {-8, -8}, {-9, -9}, {-10, -9}, {MIN, -9}}) {
            between(0, low[0], 99);
            act(10, 0, 1, 9, 1);
            isBetween(9, low[1], 9, 1, 0);
        }
        says("HIGH is 0, if a's is 0 or less, else the lesser of a's and b - 1");
        number(1, 10);
        for (long[] high : new long[][] {{-3, 0}, {0, 0}, {1, 1}, {8, 8}, {9, 9}, {10, 9}, {MAX, 9}}) {
            between(0, -99, high[0]);
            act(10, 0, 1, 9, 1);
            isBetween(9, -9, high[1], 1, 0);
        }
        number(1, 1);
        between(0, -5, 5);
        act(10, 0, 1, 9, 1);
        isNumber(9, 0);
        says("M THE ODD PART of the GCD of M and b, REST of a's");
        number(1, 10);
        modulo(0, 0, 99, 15, 7);
        act(10, 0, 1, 9, 1);
        isBetween(9, 2, 7, 5, 2);
        modulo(0, -99, 99, 15, 7);
        act(10, 0, 1, 9, 1);
        isBetween(9, -8, 7, 5, 2);
        number(1, 12);
        act(10, 0, 1, 9, 1);
        isBetween(9, -11, 10, 3, 1);
        says("if b is a power of 2 and a's LOW 0 or more: bits as of a & (b - 1)");
        between(0, 0, 99);
        known(0, 3, 2, 1);
        number(1, 8);
        act(10, 0, 1, 9, 1);
        isFact(9, 2, 6, ~4L, 2, 1, 0);
        number(1, 12);
        act(10, 0, 1, 9, 1);
        isFact(9, 0, 11, ~15L, 0, 1, 0);
        between(0, 0, 99);
        known(0, 3, 0, 1);
        number(1, 8);
        act(10, 0, 1, 9, 1);
        isFact(9, 0, 4, ~4L, 0, 1, 0);
        between(0, -1, 99);
        known(0, 1, 1, 1);
        number(1, 8);
        act(10, 0, 1, 9, 1);
        isFact(9, -1, 7, 0, 0, 1, 0);
        between(0, 0, MAX);
        known(0, 1, 1, 1);
        number(1, HALF);
        act(10, 0, 1, 9, 1);
        isFact(9, 1, HALF - 1, ~(HALF - 1) | 1, 1, 1, 0);
    }

    private static void theRest() {
        says("11 (a ^ a >>> 29) * -4658895280553007687 + b: ALL, GIVEN UP");
        number(0, 7);
        between(1, 7, 8);
        act(11, 0, 1, 9, 1);
        isAll(9);
        act(11, 1, 0, 9, 1);
        isAll(9);
        act(11, 1, 1, 9, 1);
        isAll(9);
        number(1, MIN);
        act(11, 1, 0, 9, 1);
        isNumber(9, (MIN ^ 1L << 34) * -4658895280553007687L + 7);
        says("12 -a: as 0 - a");
        between(0, MIN, 0);
        act(12, 0, 0, 9, 1);
        isAll(9);
        between(0, MIN + 1, 0);
        act(12, 0, 0, 9, 1);
        isBetween(9, 0, MAX, 1, 0);
        modulo(0, 0, 9, 5, 2);
        act(12, 0, 0, 9, 1);
        isBetween(9, -7, -2, 5, 3);
        modulo(0, 0, 9, 5, 0);
        act(12, 0, 0, 9, 1);
        isBetween(9, -5, 0, 5, 0);
        says("13 ~a: ends turned round, ~HIGH and ~LOW; bits turned; M as it was, REST of -1 less it");
        between(0, MIN, 0);
        act(13, 0, 0, 9, 1);
        isBetween(9, -1, MAX, 1, 0);
        modulo(0, 0, 20, 7, 3);
        act(13, 0, 0, 9, 1);
        isBetween(9, -18, -4, 7, 3);
        modulo(0, 0, 20, 7, 0);
        act(13, 0, 0, 9, 1);
        isBetween(9, -15, -1, 7, 6);
        known(1, 3, 1, 1);
        act(13, 1, 1, 9, 1);
        isFact(9, MIN + 2, MAX - 1, 3, 2, 1, 0);
        act(13, 2, 2, 9, 1);
        isAll(9);
    }

    private static void casts() {
        says("if both ends are such already, a itself; else ends the least and greatest that there are so");
        for (int op = 14; op < 20; op++) {
            int width = op % 3 == 2 ? 8 : op % 3 == 0 ? 16 : 32;
            long least = op < 17 ? -1L << width - 1 : 0, most = least + (1L << width) - 1;
            modulo(0, least, most, 3, least);
            act(op, 0, 0, 9, 1);
            isBetween(9, least, most, 3, Math.floorMod(least, 3L));
            modulo(0, least - 3, most, 3, least);
            act(op, 0, 0, 9, 1);
            isBetween(9, least, most, 1, 0);
            modulo(0, least, most + 3, 3, least);
            act(op, 0, 0, 9, 1);
            isBetween(9, least, most, 1, 0);
            between(0, least - 1, most);
            act(op, 0, 0, 9, 1);
            isBetween(9, least, most, 1, 0);
            between(0, least, most + 1);
            act(op, 0, 0, 9, 1);
            isBetween(9, least, most, 1, 0);
        }
        says("bits: the lowest ones, in front copies of the highest of them (0s for 17 to 19)");
        long[][] narrow = {{14, 128, 129, -128, -127}, {14, 126, 129, -128, 127}, {14, 256, 257, 0, 1}, {15, 32768, 32769, -32768, -32767},
            {16, 1L << 31, (1L << 31) + 1, -(1L << 31), 1 - (1L << 31)}, {16, MIN, MIN + 1, 0, 1}, {17, 256, 257, 0, 1}, {17, -2, -1, 254, 255},
            {18, -2, -1, 65534, 65535}, {18, 65536, 65537, 0, 1}, {19, -2, -1, 4294967294L, 4294967295L}, {19, 1L << 32, (1L << 32) + 1, 0, 1}};
        for (long[] n : narrow) {
            between(0, n[1], n[2]);
            act((int) n[0], 0, 0, 9, 1);
            isBetween(9, n[3], n[4], 1, 0);
        }
        between(0, 200, 300);
        known(0, 7, 1, 1);
        act(14, 0, 0, 9, 1);
        isFact(9, -127, 121, 7, 1, 1, 0);
        act(17, 0, 0, 9, 1);
        isFact(9, 1, 249, ~0xF8L, 1, 1, 0);
    }

    public static void main(String[] args) {
        whatCountsForAll();
        sums();
        differences();
        products();
        bits();
        counts();
        shifts();
        divisions();
        remainders();
        theRest();
        casts();
        end();
    }
}

/** Each sentence of 'Terms' and of promises 1 to 7 that names a bound, by answers worked out by hand. */
public final class FactBoundsTest extends Bounds {
    private static final int PRIME = 2147483647;

    private static void numbers() {
        says("NUMBERS are longs; acts wrap.");
        long[][] wraps = {{0, MAX, 1, MIN}, {0, MIN, -1, MAX}, {1, MIN, 1, MAX}, {1, 0, MIN, MIN}, {2, MAX, 2, -2}, {2, MIN, -1, MIN},
            {6, 3, 63, MIN}, {9, MIN, -1, MIN}, {10, MIN, -1, 0}, {12, MIN, 0, MIN}, {14, 128, 0, -128}, {16, 1L << 31, 0, -(1L << 31)}};
        for (long[] w : wraps) {
            number(0, w[1]);
            number(1, w[2]);
            act((int) w[0], 0, 1, 2, 1);
            isNumber(2, w[3]);
        }
        says("LOW not above HIGH");
        number(0, 5);
        isNumber(0, 5);
        due("fact(0, 5, 4)", x.fact(0, 5, 4), 0);
        isNone(0);
        due("fact(1, MAX, MIN)", x.fact(1, MAX, MIN), 0);
        isNone(1);
        says("an odd MODULUS M, 1 .. 2147483647, and a REST, 0 .. M - 1");
        by(0, 1, 77, 1);
        isAll(0);
        // the least long is -2 by this prime, the greatest 1
        by(1, PRIME, 5, 1);
        isFact(1, MIN + 7, MAX - (PRIME - 4), 0, 0, PRIME, 5);
        long[][] rests = {{7, 7, 0}, {7, 6, 6}, {7, -1, 6}, {7, -7, 0}, {7, MIN, 6}, {7, MAX, 0}, {PRIME, PRIME - 1, PRIME - 1}, {PRIME, -1, PRIME - 1}};
        for (int i = 0; i < rests.length; i++) {
            by(2 + i, (int) rests[i][0], rests[i][1], 1);
            due("REST of " + rests[i][1], x.told(2 + i, 5), rests[i][2]);
        }
        says("rests are 0 and more, also of numbers below 0");
        by(0, 3, 2, 1);
        for (int v = -6; v < 6; v++) of(0, v, v == -4 || v == -1 || v == 2 || v == 5);
        between(0, -9, -1);
        by(0, 7, 5, 1);
        isBetween(0, -9, -2, 7, 5);
        says("ALL: of all longs, no bit KNOWN, M 1.");
        isAll(0);
        between(0, MIN, MAX);
        isAll(0);
        says("A CONSTANT is one with LOW = HIGH: all its bits are KNOWN, its M is 1.");
        for (long v : new long[] {0, -3, MIN, MAX}) {
            number(0, v);
            isNumber(0, v);
        }
    }

    private static void sharpenedByBits() {
        says("LOW becomes the least number not below it that has the KNOWN bits");
        for (long[] low : new long[][] {{4, 5}, {5, 5}, {6, 13}, {12, 13}, {13, 13}, {14, 21}}) {
            between(0, low[0], 100);
            known(0, 7, 5, 1);
            isFact(0, low[1], 93, ~127L | 7, 5, 1, 0);
        }
        between(0, -3, 100);
        known(0, MIN, 0, 1);
        isFact(0, 0, 100, ~127L, 0, 1, 0);
        says("HIGH the greatest not above it that has them");
        for (long[] high : new long[][] {{102, 101}, {101, 101}, {100, 93}, {94, 93}, {93, 93}, {92, 85}}) {
            between(0, 5, high[0]);
            known(0, 7, 5, 1);
            isFact(0, 5, high[1], ~127L | 7, 5, 1, 0);
        }
        between(0, -100, 3);
        known(0, MIN, MIN, 1);
        isFact(0, -100, -1, ~127L, ~127L, 1, 0);
        says("the highest bits that LOW and HIGH have alike, down to the first in which they differ, are KNOWN so");
        long[][] alike = {{16, 23, ~7L, 16}, {9, 10, ~3L, 8}, {0, MAX, MIN, 0}, {MIN, -1, MIN, MIN}, {-1, 0, 0, 0},
            {MAX - 1, MAX, ~1L, MAX - 1}, {MIN, MIN + 1, ~1L, MIN}, {-2, -1, ~1L, -2}, {3, 4, ~7L, 0}};
        for (long[] a : alike) {
            between(0, a[0], a[1]);
            isFact(0, a[0], a[1], a[2], a[3], 1, 0);
        }
        says("It is NONE as soon as there is no such number");
        // not below 7 there is none with 0??0, not above 8 none with 1??1
        between(0, 7, 9);
        known(0, 9, 0, 0);
        isNone(0);
        between(0, 7, 8);
        known(0, 9, 9, 0);
        isNone(0);
        between(0, -9, -7);
        known(0, 9, 0, 0);
        isNone(0);
        between(0, -9, -8);
        known(0, 9, 9, 0);
        isNone(0);
        says("It is NONE as soon as there is no such number (by bits)");
        lines(l(24, 0, 1), l(27, 0, 0), l(27, 0, 0));
        long half = 1L << 62;
        known(0, half, 0, 1);
        isFact(0, MIN, half - 1, half, 0, 1, 0);
        due("given(0, 0, 0)", x.given(0, 0, 0), 1);
        give(1, half, half);
        find(1);
        // from 2 ^ 62 on there is none whose bit 62 is 0
        unreached(1);
        ahead(2, 0, MIN, half - 1);
        known(1, half, half, 1);
        isFact(1, -half, MAX, half, half, 1, 0);
        due("given(0, 0, 1)", x.given(0, 0, 1), 1);
        give(1, -half, -half);
        find(1);
        // below -2 ^ 62 there is none whose bit 62 is 1
        unreached(2);
        ahead(1, 0, -half, MAX);
    }

    private static void sharpenedByRest() {
        says("LOW, HIGH likewise by the REST");
        long[][] ends = {{2, 3}, {3, 3}, {4, 10}, {-5, -4}, {-4, -4}, {-3, 3}};
        for (long[] e : ends) {
            between(0, e[0], 100);
            by(0, 7, 3, 1);
            isBetween(0, e[1], 94, 7, 3);
        }
        for (long[] e : new long[][] {{95, 94}, {94, 94}, {93, 87}}) {
            between(0, -20, e[0]);
            by(0, 7, 3, 1);
            isBetween(0, -18, e[1], 7, 3);
        }
        says("It is NONE as soon as there is no such number (by the REST)");
        lines(l(24, 0, 1), l(27, 0, 0), l(27, 0, 0));
        by(0, PRIME, 5, 1);
        due("given(0, 0, 0)", x.given(0, 0, 0), 1);
        long last = MAX - (PRIME - 4);
        give(1, MAX, MAX);
        find(1);
        unreached(1);
        ahead(2, 0, MIN + 7, last);
        give(1, last, last);
        find(1);
        ahead(1, 0, last, last);
        give(1, MIN + 1, MIN + 1);
        find(1);
        unreached(2);
        ahead(1, 0, MIN + 7, last);
        give(1, MIN + 8, MIN + 8);
        find(1);
        ahead(2, 0, MIN + 7, MIN + 7);
    }

    private static void sharpenedToNone() {
        says("LOW is above HIGH");
        between(0, -1, 0);
        known(0, 3, 2, 0);
        isNone(0);
        between(1, 4, 9);
        by(1, 7, 3, 0);
        isNone(1);
        says("or a bit that becomes KNOWN was KNOWN otherwise");
        between(0, 60, 130);
        known(0, 64, 0, 1);
        // 65 and 98 alone are 32 by 33: both have bit 6
        by(0, 33, 32, 0);
        isNone(0);
        between(1, 0, 23);
        known(1, 8, 0, 1);
        by(1, 101, 10, 0);
        isNone(1);
        says("a CONSTANT, and over, when LOW is HIGH behind the three");
        between(0, 0, 9);
        by(0, 11, 4, 1);
        isNumber(0, 4);
        between(1, 8, 11);
        known(1, 3, 1, 1);
        isNumber(1, 9);
        known(2, -1, MIN, 1);
        isNumber(2, MIN);
    }

    private static void sharpenedSixTimes() {
        says("6 times in all at most");
        unfinished(0);
        isBetween(0, 121, 9916, 15, 1);
        act(21, 0, 0, 0, 1);
        isBetween(0, 211, 9856, 15, 1);
        for (int i = 0; i < 2; i++) {
            act(21, 0, 0, 0, 1);
            isBetween(0, 256, 9856, 15, 1);
        }
        // 176, 192, .. 256 is the sixth; from 160 on 240 is, of which the rest makes 241
        between(1, 176, 9856);
        known(1, 15, 0, 1);
        by(1, 15, 1, 1);
        isBetween(1, 256, 9856, 15, 1);
        between(2, 160, 9856);
        known(2, 15, 0, 1);
        by(2, 15, 1, 1);
        isBetween(2, 241, 9856, 15, 1);
        says("and again, as long as LOW, HIGH or which bits are KNOWN changed by the three");
        // the rest alone changes HIGH, 4 .. 7 then has a bit more, and so on to the end
        between(0, 4, 8);
        by(0, 3, 1, 1);
        isFact(0, 4, 7, ~3L, 4, 3, 1);
        between(1, 224, 9856);
        known(1, 15, 0, 1);
        by(1, 15, 1, 1);
        isBetween(1, 256, 9856, 15, 1);
        // HIGH alone: 9984, 9968, .. and at the sixth 9904, of which the rest makes 9901
        between(2, 256, 9999);
        known(2, 15, 0, 1);
        by(2, 15, 1, 1);
        isBetween(2, 256, 9901, 15, 1);
    }

    private static void oddParts() {
        says("THE ODD PART of a number above 0: it without all its factors 2");
        number(0, 0);
        long[][] apart = {{1, 1}, {2, 1}, {3, 3}, {8, 1}, {12, 3}, {-12, 3}, {MIN, 1}, {1L << 62, 1}, {5L << 60, 5}};
        for (long[] a : apart) {
            number(1, a[0]);
            act(20, 0, 1, 2, 1);
            due("M of 0 and " + a[0], x.told(2, 4), a[1]);
        }
        says("1 in its place, if that is above 2147483647");
        number(0, 0);
        for (long factor = 1; factor <= 1L << 31; factor <<= 31) {
            number(1, PRIME * factor);
            act(20, 0, 1, 2, 1);
            due("the greatest M", x.told(2, 4), PRIME);
            number(1, (PRIME + 2L) * factor);
            act(20, 0, 1, 2, 1);
            due("a greater one", x.told(2, 4), 1);
        }
        number(1, MAX);
        act(20, 0, 1, 2, 1);
        due("by the greatest long", x.told(2, 4), 1);
        says("and of 0");
        between(0, -4, 9);
        number(1, 0);
        act(2, 0, 1, 2, 1);
        isNumber(2, 0);
        act(2, 1, 0, 2, 1);
        isNumber(2, 0);
        says("M of a CONSTANT counts as 0, its REST as the number itself; the GREATEST COMMON DIVISOR (GCD) of 0 and a number is that");
        between(0, 0, 30);
        by(0, 5, 2, 1);
        number(1, -4);
        act(0, 1, 0, 2, 1);
        isBetween(2, -2, 23, 5, 3);
        act(1, 1, 0, 2, 1);
        isBetween(2, -31, -6, 5, 4);
        act(1, 0, 1, 2, 1);
        isBetween(2, 6, 31, 5, 1);
        between(3, 0, 100);
        by(3, 15, 7, 1);
        between(4, 0, 100);
        by(4, 21, 4, 1);
        act(0, 3, 4, 2, 1);
        isBetween(2, 11, 185, 3, 2);
    }

    private static void joins() {
        says("JOIN of two (NONE and one: that)");
        nothing(0);
        unfinished(1);
        act(20, 0, 1, 2, 1);
        isBetween(2, 121, 9916, 15, 1);
        act(20, 1, 0, 2, 1);
        isBetween(2, 121, 9916, 15, 1);
        act(20, 0, 0, 2, 0);
        isNone(2);
        says("the lesser LOW, the greater HIGH, the bits that are KNOWN in both, and alike");
        number(0, 6);
        number(1, 21);
        act(20, 0, 1, 2, 1);
        isFact(2, 6, 21, ~19L, 4, 15, 6);
        act(20, 1, 0, 2, 1);
        isFact(2, 6, 21, ~19L, 4, 15, 6);
        number(0, MIN);
        number(1, MAX);
        act(20, 0, 1, 2, 1);
        isAll(2);
        says("how far both RESTS are from one another");
        // the distances are above the greatest long: 3 * 2 ^ 62, 5 * 2 ^ 61
        long[][] far = {{MIN, 1L << 62, 3, 1}, {1L << 62, MIN, 3, 1}, {MIN, 1L << 61, 5, 2}, {MIN, 0, 1, 0}, {-1, MAX, 1, 0}, {MIN + 1, MAX, 1, 0}};
        for (long[] f : far) {
            number(0, f[0]);
            number(1, f[1]);
            act(20, 0, 1, 2, 1);
            due("M of " + f[0] + " and " + f[1], x.told(2, 4), f[2]);
            due("REST of " + f[0] + " and " + f[1], x.told(2, 5), f[3]);
        }
        // the least long is 1 by 3
        number(0, MIN);
        for (int r = 0; r < 3; r++) {
            between(1, 0, 30);
            by(1, 3, r, 1);
            act(20, 1, 0, 2, 1);
            due("M of one that is " + r + " by 3 and of the least long", x.told(2, 4), r == 1 ? 3 : 1);
            act(20, 0, 1, 2, 1);
            due("M of the least long and of one that is " + r + " by 3", x.told(2, 4), r == 1 ? 3 : 1);
        }
        // that the CONSTANT is LOW does not make them alike: bits 0 and 3 of 121 are 1, those of the other 0
        unfinished(3);
        number(0, 121);
        for (int i = 0; i < 2; i++) {
            act(20, i == 0 ? 3 : 0, i == 0 ? 0 : 3, 2, 1);
            due("KNOWN of the lowest four", x.told(2, 2) & 15, 6);
        }
        says("two CONSTANTS alike: that");
        for (long v : new long[] {0, -7, MIN, MAX}) {
            number(0, v);
            number(1, v);
            act(20, 0, 1, 2, 1);
            isNumber(2, v);
        }
        says("the REST is the first one's by that");
        between(0, 0, 30);
        by(0, 15, 7, 1);
        number(1, -3);
        act(20, 0, 1, 2, 1);
        isBetween(2, -3, 22, 5, 2);
        act(20, 1, 0, 2, 1);
        isBetween(2, -3, 22, 5, 2);
    }

    private static void meets() {
        says("MEET (NONE with NONE)");
        nothing(0);
        between(1, 0, 9);
        act(21, 0, 1, 2, 0);
        isNone(2);
        act(21, 1, 0, 2, 0);
        isNone(2);
        act(21, 0, 0, 2, 0);
        isNone(2);
        says("the greater LOW, the lesser HIGH (NONE, if that is below)");
        between(0, 0, 5);
        between(1, 4, 9);
        act(21, 0, 1, 2, 1);
        isBetween(2, 4, 5, 1, 0);
        between(1, 5, 9);
        act(21, 0, 1, 2, 1);
        isNumber(2, 5);
        between(1, 6, 9);
        act(21, 0, 1, 2, 0);
        isNone(2);
        act(21, 1, 0, 2, 0);
        isNone(2);
        says("the bits KNOWN in one (NONE, if both tell one otherwise)");
        known(0, 5, 1, 1);
        known(1, 6, 2, 1);
        act(21, 0, 1, 2, 1);
        isFact(2, MIN + 3, MAX - 4, 7, 3, 1, 0);
        known(1, 1, 0, 1);
        act(21, 0, 1, 2, 0);
        isNone(2);
        says("M and REST of the one with the greater M (1 of a CONSTANT), of like ones the first's");
        between(0, 0, 20);
        by(0, 3, 1, 1);
        between(1, 0, 20);
        by(1, 5, 2, 1);
        act(21, 0, 1, 2, 1);
        isBetween(2, 2, 17, 5, 2);
        act(21, 1, 0, 2, 1);
        isBetween(2, 2, 17, 5, 2);
        between(0, 0, 20);
        by(0, 5, 1, 1);
        act(21, 0, 1, 2, 1);
        isBetween(2, 6, 16, 5, 1);
        act(21, 1, 0, 2, 1);
        isBetween(2, 2, 12, 5, 2);
        for (int v = 5; v < 8; v++) {
            number(3, v);
            act(21, 3, 0, 2, v == 6 ? 1 : 0);
            act(21, 0, 3, 2, v == 6 ? 1 : 0);
            if (v == 6) isNumber(2, 6);
            else isNone(2);
        }
    }

    private static void newObject() {
        says("All FACTS are ALL");
        for (int f = 0; f < 16; f++) isAll(f);
        of(0, MIN, true);
        of(15, MAX, true);
        says("no METHODS, empty TABLES; all numbers put in are 0");
        for (int m = -1; m < 7; m++) {
            due("find(" + m + ")", x.find(m), BAD);
            due("walk(" + m + ", 0)", x.walk(m, 0), BAD);
        }
        for (int t = 0; t < 4; t++) due("table(" + t + ", 9)", x.table(t, 9), 1);
        for (int p = 0; p < 8; p++) put(p, 9, 0);
        due("method()", x.method(), 0);
        due("another object's", new BitCongruences().method(), 0);
    }

    private static void factAndBits() {
        says("FACT f is of low .. high, with nothing else known (SHARPENED): 1; 0: NONE. BAD.");
        known(15, 1, 1, 1);
        by(15, 3, 0, 1);
        between(15, 0, 9);
        isFact(15, 0, 9, ~15L, 0, 1, 0);
        nothing(0);
        between(0, MIN, MAX);
        isAll(0);
        for (int f : FAR) due("fact(" + f + ", 0, 0)", x.fact(f, 0, 0), BAD);
        due("fact(16, 0, 0)", x.fact(16, 0, 0), BAD);
        due("fact(16, 1, 0)", x.fact(16, 1, 0), BAD);
        says("Bits of FACT f are KNOWN besides (values: those among known count)");
        known(0, 0, -1, 1);
        isAll(0);
        known(0, 1, -1, 1);
        isFact(0, MIN + 1, MAX, 1, 1, 1, 0);
        known(0, 2, 1, 1);
        isFact(0, MIN + 1, MAX - 2, 3, 1, 1, 0);
        known(0, MIN, -1, 1);
        isFact(0, MIN + 1, -3, MIN | 3, MIN | 1, 1, 0);
        says("as a MEET with a SHARPENED FACT of all longs with these: 1; 0 it is NONE. BAD.");
        between(15, 0, 9);
        by(15, 5, 1, 1);
        known(15, 1, 0, 1);
        isNumber(15, 6);
        known(15, 1, 1, 0);
        isNone(15);
        known(15, 1, 1, 0);
        known(15, 0, 0, 0);
        isNone(15);
        unfinished(0);
        known(0, 0, 0, 1);
        isBetween(0, 211, 9856, 15, 1);
        for (int f : FAR) known(f, 1, 1, BAD);
        known(16, 1, 1, BAD);
    }

    private static void rests() {
        says("Likewise by a REST: m (odd, above 0), the rest of r. BAD: also of m.");
        for (int m : new int[] {0, 2, 4, -1, -2, -3, Integer.MIN_VALUE, Integer.MIN_VALUE + 1, PRIME - 1}) by(0, m, 0, BAD);
        for (int f : FAR) by(f, 3, 0, BAD);
        by(16, 3, 0, BAD);
        isAll(0);
        between(0, 0, 30);
        by(0, 1, -5, 1);
        isBetween(0, 0, 30, 1, 0);
        by(0, 5, -1, 1);
        isBetween(0, 4, 29, 5, 4);
        // a MEET: of like Ms FACT f's stays, and so it does against a lesser one
        by(0, 5, 2, 1);
        isBetween(0, 4, 29, 5, 4);
        by(0, 3, 0, 1);
        isBetween(0, 4, 29, 5, 4);
        by(0, 7, 4, 1);
        isBetween(0, 4, 25, 7, 4);
        by(0, PRIME, 11, 1);
        isNumber(0, 11);
        by(0, 3, 2, 1);
        isNumber(0, 11);
        by(0, 3, 0, 0);
        isNone(0);
        by(0, 3, 0, 0);
        // the least long is 7 by 15: the SHARPENED FACT of the REST begins at 14 more, the MEET at 16 more, .. 96 more
        known(1, 15, 0, 1);
        by(1, 15, 6, 1);
        isBetween(1, MIN + 104, MAX - 31, 15, 6);
    }

    private static void actsAndTellings() {
        says("FACT to becomes what comes by an act (0 .. 19; 20 JOIN, 21 MEET) of FACTS a, b (b must be one, too): 1; 0: NONE. BAD.");
        number(0, 6);
        nothing(1);
        number(15, 77);
        for (int op = 0; op < 22; op++) {
            act(op, 0, 16, 15, BAD);
            act(op, 0, -1, 15, BAD);
            act(op, 16, 0, 15, BAD);
            act(op, -1, 0, 15, BAD);
            act(op, 0, 0, 16, BAD);
            act(op, 0, 0, -1, BAD);
        }
        for (int wrong : FAR) {
            act(wrong, 0, 0, 15, BAD);
            act(0, wrong, 0, 15, BAD);
            act(13, 0, wrong, 15, BAD);
            act(0, 0, 0, wrong, BAD);
        }
        act(22, 0, 0, 15, BAD);
        isNumber(15, 77);
        act(0, 0, 0, 0, 1);
        isNumber(0, 12);
        act(1, 15, 0, 0, 1);
        isNumber(0, 65);
        act(0, 0, 1, 0, 0);
        isNone(0);
        says("2 KNOWN, 3 their values (0s else), 4 M, 5 REST (all 0 of NONE), 6 whether it is NONE (1, 0). 0 for others.");
        between(15, 8, 15);
        by(15, 3, 1, 1);
        isFact(15, 10, 13, ~7L, 8, 3, 1);
        nothing(0);
        isNone(0);
        for (int f : new int[] {0, 15}) {
            due("told(" + f + ", 7)", x.told(f, 7), 0);
            for (int what : FAR) due("told(" + f + ", " + what + ")", x.told(f, what), 0);
        }
        for (int what = 0; what < 8; what++) {
            due("told(16, " + what + ")", x.told(16, what), 0);
            for (int f : FAR) due("told(" + f + ", " + what + ")", x.told(f, what), 0);
        }
        says("Whether a number is OF FACT f. False: also there is none such.");
        between(0, -50, 50);
        by(0, 7, 3, 1);
        known(0, 1, 1, 1);
        for (int v = -60; v < 60; v++) of(0, v, v >= -50 && v <= 50 && Math.floorMod(v, 14) == 3);
        nothing(1);
        of(1, 0, false);
        of(1, 1, false);
        of(16, 0, false);
        for (int f : FAR) of(f, 0, false);
        between(2, MIN, -1);
        of(2, MIN, true);
        of(2, -1, true);
        of(2, 0, false);
        number(3, MAX);
        of(3, MAX, true);
        of(3, MAX - 1, false);
        of(3, MIN, false);
    }

    public static void main(String[] args) {
        numbers();
        sharpenedByBits();
        sharpenedByRest();
        sharpenedToNone();
        sharpenedSixTimes();
        oddParts();
        joins();
        meets();
        newObject();
        factAndBits();
        rests();
        actsAndTellings();
        end();
    }
}

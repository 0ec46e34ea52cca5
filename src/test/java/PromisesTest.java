/** Promises 1 to 18, each by runs whose answers were worked out by hand from the document. */
public final class PromisesTest {
    private static final long MIN = Long.MIN_VALUE, MAX = Long.MAX_VALUE;
    private static final int BAD = -1, FULL = -2, STATE = -3;
    private static int wrong = 0;
    private static String promise = "";
    private static BitCongruences x;

    private static void begin(String name) {
        promise = name;
        x = new BitCongruences();
    }

    private static void due(String call, long got, long want) {
        if (got != want) {
            wrong++;
            System.out.println(promise + ": " + call + " answered " + got + ", due is " + want);
        }
    }

    private static void is(String call, boolean got, boolean want) { due(call, got ? 1 : 0, want ? 1 : 0); }

    private static void fact(int f, long low, long high, long known, long values, long m, long rest) {
        long[] want = {low, high, known, values, m, rest, 0};
        for (int what = 0; what < 7; what++) due("told(" + f + ", " + what + ")", x.told(f, what), want[what]);
    }

    private static void ends(int f, long low, long high, long m, long rest) {
        due("LOW of " + f, x.told(f, 0), low);
        due("HIGH of " + f, x.told(f, 1), high);
        due("M of " + f, x.told(f, 4), m);
        due("REST of " + f, x.told(f, 5), rest);
    }

    private static void all(int f) { fact(f, MIN, MAX, 0, 0, 1, 0); }

    private static void constant(int f, long v) { fact(f, v, v, -1, v, 1, 0); }

    private static void none(int f) {
        for (int what = 0; what < 6; what++) due("told(" + f + ", " + what + ") of NONE", x.told(f, what), 0);
        due("told(" + f + ", 6) of NONE", x.told(f, 6), 1);
    }

    private static void act(int op, int a, int b, int want) { due("act(" + op + ", " + a + ", " + b + ", 9)", x.act(op, a, b, 9), want); }

    private static void newObject() {
        begin("1 a new object");
        for (int f = 0; f < 16; f++) all(f);
        is("isOf(0, MIN)", x.isOf(0, MIN), true);
        is("isOf(15, MAX)", x.isOf(15, MAX), true);
        due("find(0)", x.find(0), BAD);
        due("sum(0, 0)", x.sum(0, 0), BAD);
        for (int t = 0; t < 4; t++) due("table(" + t + ", 5)", x.table(t, 5), 1);
        for (int p = 0; p < 8; p++) {
            due("now(" + p + ")", x.now(p), 0);
            due("put(" + p + ", 9)", x.put(p, 9), 0);
        }
        due("ran(0)", x.ran(0), 0);
        due("ran(1)", x.ran(1), 0);
        due("ran(2)", x.ran(2), BAD);
        due("method()", x.method(), 0);
        BitCongruences other = new BitCongruences();
        due("another object's table(0, 1)", other.table(0, 1), 1);
    }

    private static void factCalls() {
        begin("2 fact");
        due("fact(0, 5, 5)", x.fact(0, 5, 5), 1);
        constant(0, 5);
        due("fact(15, -4, 3)", x.fact(15, -4, 3), 1);
        fact(15, -4, 3, 0, 0, 1, 0);
        due("fact(1, 16, 23)", x.fact(1, 16, 23), 1);
        fact(1, 16, 23, ~7L, 16, 1, 0);
        due("fact(2, MIN, MAX)", x.fact(2, MIN, MAX), 1);
        all(2);
        due("fact(2, MIN, MIN)", x.fact(2, MIN, MIN), 1);
        constant(2, MIN);
        due("fact(2, -2, -1)", x.fact(2, -2, -1), 1);
        fact(2, -2, -1, ~1L, -2, 1, 0);
        due("fact(2, 1, 0)", x.fact(2, 1, 0), 0);
        none(2);
        due("fact(2, 0, 1)", x.fact(2, 0, 1), 1);
        fact(2, 0, 1, ~1L, 0, 1, 0);
        due("fact(-1, 0, 1)", x.fact(-1, 0, 1), BAD);
        due("fact(16, 0, 1)", x.fact(16, 0, 1), BAD);
        x.rest(1, 3, 0);
        due("fact(1, 0, 3)", x.fact(1, 0, 3), 1);
        fact(1, 0, 3, ~3L, 0, 1, 0);
    }

    private static void bitsCalls() {
        begin("3 bits");
        x.fact(0, 0, 100);
        due("bits(0, 1, 1)", x.bits(0, 1, 1), 1);
        fact(0, 1, 99, ~127L | 1, 1, 1, 0);
        due("bits(0, 2, 0)", x.bits(0, 2, 0), 1);
        fact(0, 1, 97, ~127L | 3, 1, 1, 0);
        due("bits(0, 1, 0)", x.bits(0, 1, 0), 0);
        none(0);
        due("bits(0, 4, 4) of NONE", x.bits(0, 4, 4), 0);
        none(0);
        due("bits(1, 1, -1)", x.bits(1, 1, -1), 1);
        fact(1, MIN + 1, MAX, 1, 1, 1, 0);
        due("bits(1, 0, 0)", x.bits(1, 0, 0), 1);
        fact(1, MIN + 1, MAX, 1, 1, 1, 0);
        due("bits(2, -1, 77)", x.bits(2, -1, 77), 1);
        constant(2, 77);
        due("bits(2, 1, 1)", x.bits(2, 1, 1), 1);
        constant(2, 77);
        x.fact(3, -10, -1);
        due("bits(3, 7, 0)", x.bits(3, 7, 0), 1);
        constant(3, -8);
        due("bits(4, MIN, MIN)", x.bits(4, MIN, MIN), 1);
        fact(4, MIN, -1, MIN, MIN, 1, 0);
        x.fact(5, 8, 11);
        due("bits(5, 4, 4): no such number", x.bits(5, 4, 4), 0);
        none(5);
        due("bits(-1, 0, 0)", x.bits(-1, 0, 0), BAD);
        due("bits(16, 0, 0)", x.bits(16, 0, 0), BAD);
    }

    private static void restCalls() {
        begin("4 rest");
        x.fact(0, -10, 10);
        due("rest(0, 7, -1)", x.rest(0, 7, -1), 1);
        ends(0, -8, 6, 7, 6);
        due("rest(0, 3, 0): the greater M stays", x.rest(0, 3, 0), 1);
        ends(0, -8, 6, 7, 6);
        due("rest(0, 7, 1): of like Ms the first", x.rest(0, 7, 1), 1);
        ends(0, -8, 6, 7, 6);
        due("rest(0, 9, 6)", x.rest(0, 9, 6), 1);
        ends(0, -3, 6, 9, 6);
        for (int m : new int[] {0, 2, -1, -3, 4, Integer.MIN_VALUE, 2147483646}) due("rest(0, " + m + ", 0)", x.rest(0, m, 0), BAD);
        due("rest(-1, 3, 0)", x.rest(-1, 3, 0), BAD);
        due("rest(16, 3, 0)", x.rest(16, 3, 0), BAD);
        ends(0, -3, 6, 9, 6);
        due("rest(1, 1, 5)", x.rest(1, 1, 5), 1);
        all(1);
        due("rest(2, 2147483647, 5)", x.rest(2, 2147483647, 5), 1);
        fact(2, MIN + 7, MAX - 2147483643L, 0, 0, 2147483647, 5);
        x.fact(3, 7, 7);
        due("rest(3, 3, 4)", x.rest(3, 3, 4), 1);
        constant(3, 7);
        due("rest(3, 3, 5)", x.rest(3, 3, 5), 0);
        none(3);
        due("rest(3, 3, 5) of NONE", x.rest(3, 3, 5), 0);
        x.fact(4, MAX - 1, MAX);
        due("rest(4, 1000001, 0): no such long", x.rest(4, 1000001, MAX - 2), 0);
        x.fact(5, 0, 9);
        due("rest(5, 11, 4)", x.rest(5, 11, 4), 1);
        constant(5, 4);
    }

    /** Sixteens that are 1 by 15: each time LOW and HIGH go on by about one sixteen, six times and no more. */
    private static void sharpening() {
        begin("TO SHARPEN six times");
        x.fact(0, 17, 10000);
        x.bits(0, 15, 0);
        ends(0, 32, 10000, 1, 0);
        x.rest(0, 15, 1);
        ends(0, 121, 9916, 15, 1);
        x.fact(1, 1, 0);
        act(20, 0, 1, 1);
        ends(9, 121, 9916, 15, 1);
        act(20, 1, 0, 1);
        ends(9, 121, 9916, 15, 1);
        x.fact(2, 0, 0);
        x.fact(3, 20000, 20000);
        for (int[] same : new int[][] {{21, 0}, {20, 0}, {6, 2}, {7, 2}, {8, 2}, {10, 3}, {15, 2}, {16, 1}, {18, 1}, {19, 1}}) {
            act(same[0], 0, same[1], 1);
            ends(9, 211, 9856, 15, 1);
        }
        x.act(21, 0, 0, 0);
        x.act(21, 0, 0, 0);
        ends(0, 256, 9856, 15, 1);
        x.bits(0, 0, 0);
        ends(0, 256, 9856, 15, 1);
    }

    private static void joins() {
        begin("JOIN and MEET");
        x.fact(0, 6, 6);
        x.fact(1, 21, 21);
        x.fact(2, 6, 6);
        act(20, 0, 2, 1);
        constant(9, 6);
        act(20, 0, 1, 1);
        fact(9, 6, 21, ~19L, 4, 15, 6);
        act(20, 9, 0, 1);
        fact(9, 6, 21, ~19L, 4, 15, 6);
        x.fact(3, 9, 12);
        act(20, 9, 3, 1);
        fact(9, 6, 21, ~31L, 0, 1, 0);
        x.fact(3, 1, 0);
        act(20, 3, 0, 1);
        constant(9, 6);
        act(20, 3, 3, 0);
        none(9);
        act(21, 3, 0, 0);
        act(21, 0, 3, 0);
        none(9);
        // both ends of the longs are 3 * 2 ^ 62 apart, more than the greatest long
        x.fact(4, MIN, MIN);
        x.fact(5, 1L << 62, 1L << 62);
        act(20, 4, 5, 1);
        due("M of the JOIN of far constants", x.told(9, 4), 3);
        due("REST of the JOIN of far constants", x.told(9, 5), 1);
        due("KNOWN of the JOIN of far constants", x.told(9, 2), (1L << 62) - 1);
        x.fact(6, 0, 0);
        x.fact(7, 2147483647L * 4, 2147483647L * 4);
        act(20, 6, 7, 1);
        due("the greatest M", x.told(9, 4), 2147483647);
        x.fact(7, 2147483649L * 4, 2147483649L * 4);
        act(20, 6, 7, 1);
        due("no greater M", x.told(9, 4), 1);
        x.fact(8, 0, 100);
        x.fact(10, 50, 200);
        x.rest(10, 3, 1);
        act(21, 8, 10, 1);
        ends(9, 52, 100, 3, 1);
        x.fact(10, 101, 200);
        act(21, 8, 10, 0);
        x.fact(10, 0, 200);
        x.bits(10, 1, 1);
        x.bits(8, 1, 0);
        act(21, 8, 10, 0);
    }

    private static void sums() {
        begin("5 act: + - *");
        x.fact(0, 0, 30);
        x.rest(0, 5, 2);
        x.fact(1, 4, 4);
        x.fact(2, 10, 20);
        act(0, 0, 1, 1);
        ends(9, 6, 31, 5, 1);
        act(1, 1, 0, 1);
        ends(9, -23, 2, 5, 2);
        act(1, 0, 2, 1);
        ends(9, -18, 17, 1, 0);
        act(12, 0, 0, 1);
        ends(9, -27, -2, 5, 3);
        x.fact(3, MAX - 6, MAX);
        x.rest(3, 7, MAX);
        act(0, 3, 1, 1);
        constant(9, MIN + 3);
        x.fact(3, MAX - 7, MAX);
        x.bits(3, 1, 1);
        act(0, 3, 1, 1);
        fact(9, MIN + 1, MAX, 1, 1, 1, 0);
        x.fact(4, MIN, 0);
        act(12, 4, 0, 1);
        all(9);
        x.fact(4, MIN, MIN);
        act(12, 4, 0, 1);
        constant(9, MIN);
        act(0, 4, 4, 1);
        constant(9, 0);
        x.fact(5, -3, 2);
        x.fact(6, 4, 5);
        act(2, 5, 6, 1);
        ends(9, -15, 10, 1, 0);
        x.fact(6, 0, 0);
        act(2, 5, 6, 1);
        constant(9, 0);
        x.fact(5, 0, 1L << 62);
        x.fact(6, 4, 4);
        act(2, 5, 6, 1);
        fact(9, MIN, MAX - 3, 3, 0, 1, 0);
        x.fact(6, 2147483647, 2147483647);
        x.fact(5, -3, 2);
        act(2, 5, 6, 1);
        ends(9, -3 * 2147483647L, 2 * 2147483647L, 2147483647, 0);
        x.fact(6, 2147483649L, 2147483649L);
        act(2, 5, 6, 1);
        ends(9, -3 * 2147483649L, 2 * 2147483649L, 1, 0);
        // just one of the four products is no long
        long far = 1L << 62;
        for (int i = 0; i < 4; i++) {
            x.fact(5, i < 2 ? -far : -1, i < 2 ? 1 : far);
            x.fact(6, i % 2 == 0 ? -3 : -1, i % 2 == 0 ? 1 : 3);
            act(2, 5, 6, 1);
            all(9);
        }
        x.fact(5, -far, far);
        x.fact(6, -1, 1);
        act(2, 5, 6, 1);
        ends(9, -far, far, 1, 0);
        x.fact(5, MIN, 1);
        act(2, 5, 6, 1);
        all(9);
        act(2, 6, 5, 1);
        all(9);
        // just one end of a sum, of a difference is no long
        x.fact(5, -far, far);
        x.fact(6, 0, far);
        act(0, 5, 6, 1);
        all(9);
        x.fact(6, -far - 1, 0);
        act(0, 5, 6, 1);
        all(9);
        act(1, 5, 6, 1);
        all(9);
        x.fact(6, 0, far + 1);
        act(1, 5, 6, 1);
        all(9);
        x.fact(6, -far, far - 1);
        act(0, 5, 6, 1);
        ends(9, MIN, MAX, 1, 0);
        // bits: x??1 and 0??1 together: the lowest is 0, its carry is known
        x.fact(5, 0, 15);
        x.bits(5, 1, 1);
        x.fact(6, 16, 16 + 7);
        x.bits(6, 1, 1);
        act(0, 5, 6, 1);
        fact(9, 18, 38, ~62L, 0, 1, 0);
        // 1 by 3 times 2 by 5: M is the GCD of 15, 6 and 5; 0 by 3 times 0 by 5: of 15, 0 and 0
        x.fact(5, 0, 100);
        x.rest(5, 3, 1);
        x.fact(6, 0, 100);
        x.rest(6, 5, 2);
        act(2, 5, 6, 1);
        ends(9, 2, 9700, 1, 0);
        x.fact(5, 0, 100);
        x.rest(5, 3, 0);
        x.fact(6, 0, 100);
        x.rest(6, 5, 0);
        act(2, 5, 6, 1);
        ends(9, 0, 9900, 15, 0);
        // the GCD itself, 3 * 3 * 2 ^ 61, is no long
        x.fact(5, -3, 0);
        x.rest(5, 3, 0);
        x.fact(6, 3L << 60, 3L << 60);
        act(2, 5, 6, 1);
        fact(9, MIN, 7L << 60, (1L << 60) - 1, 0, 1, 0);
        x.fact(6, 1L << 61, 1L << 61);
        act(2, 5, 6, 1);
        due("M of 3 and 2 ^ 61", x.told(9, 4), 3);
        due("LOW of 3 and 2 ^ 61", x.told(9, 0), -(3L << 61));
    }

    private static void bitActs() {
        begin("5 act: & | ^ << >> >>>");
        x.fact(0, 0, 100);
        x.fact(1, 12, 12);
        act(3, 0, 1, 1);
        fact(9, 0, 12, ~12L, 0, 1, 0);
        act(4, 0, 1, 1);
        fact(9, 12, 127, ~127L | 12, 12, 1, 0);
        act(5, 0, 1, 1);
        fact(9, 0, 127, ~127L, 0, 1, 0);
        x.fact(2, -5, 5);
        act(3, 2, 0, 1);
        ends(9, 0, 100, 1, 0);
        act(3, 2, 2, 1);
        all(9);
        x.fact(3, 1, 1);
        act(8, 0, 3, 1);
        fact(9, 0, 50, ~63L, 0, 1, 0);
        act(7, 0, 3, 1);
        fact(9, 0, 50, ~63L, 0, 1, 0);
        x.fact(3, -1, -1);
        x.fact(4, 67, 67);
        act(6, 3, 4, 1);
        constant(9, -8);
        act(7, 3, 4, 1);
        constant(9, -1);
        act(8, 3, 4, 1);
        constant(9, -1L >>> 3);
        x.fact(3, 0, 10);
        x.rest(3, 5, 1);
        x.fact(4, 3, 3);
        act(6, 3, 4, 1);
        fact(9, 8, 48, ~63L | 7, 0, 5, 3);
        x.fact(4, 67, 67);
        act(6, 3, 4, 1);
        ends(9, 8, 48, 5, 3);
        x.fact(4, 61, 61);
        act(6, 3, 4, 1);
        fact(9, MIN, 3L << 61, (1L << 61) - 1, 0, 1, 0);
        x.fact(5, -1, 0);
        x.fact(4, 63, 63);
        act(6, 5, 4, 1);
        fact(9, MIN, 0, MAX, 0, 1, 0);
        act(7, 5, 4, 1);
        ends(9, -1, 0, 1, 0);
        act(8, 5, 4, 1);
        fact(9, 0, 1, ~1L, 0, 1, 0);
        x.fact(5, -64, -32);
        x.fact(4, 4, 4);
        act(7, 5, 4, 1);
        ends(9, -4, -2, 1, 0);
        act(8, 5, 4, 1);
        ends(9, -64L >>> 4, -32L >>> 4, 1, 0);
        // three of six count bits not known: counts 0, 1, .. 7 of 8 to 15; four: given up
        x.fact(6, 8, 15);
        x.fact(7, 1, 1);
        act(6, 7, 6, 1);
        fact(9, 256, 1 << 15, ~0xFF00L, 0, 1, 0);
        x.fact(6, 0, 15);
        act(6, 7, 6, 1);
        all(9);
        act(7, 7, 6, 1);
        all(9);
        act(8, 0, 6, 1);
        all(9);
        x.fact(6, 0, 1);
        x.fact(7, 40, 50);
        act(7, 7, 6, 1);
        ends(9, 20, 50, 1, 0);
        x.fact(6, 0, 7);
        act(6, 1, 6, 1);
        fact(9, 12, 12 << 7, ~0x7FFL | 3, 0, 3, 0);
    }

    private static void divisions() {
        begin("5 act: / % mix ~ casts");
        x.fact(0, -25, 99);
        x.fact(1, 10, 10);
        act(9, 0, 1, 1);
        ends(9, -2, 9, 1, 0);
        act(10, 0, 1, 1);
        ends(9, -9, 9, 1, 0);
        x.fact(2, 3, 99);
        act(10, 2, 1, 1);
        ends(9, 0, 9, 1, 0);
        x.fact(2, -3, 9);
        act(10, 2, 1, 1);
        ends(9, -3, 9, 1, 0);
        x.fact(2, -99, 0);
        act(10, 2, 1, 1);
        ends(9, -9, 0, 1, 0);
        x.fact(2, 0, 99);
        x.rest(2, 15, 7);
        act(10, 2, 1, 1);
        ends(9, 2, 7, 5, 2);
        x.fact(2, -10, 9);
        act(10, 2, 1, 1);
        ends(9, -9, 9, 1, 0);
        x.fact(2, -9, 10);
        act(10, 2, 1, 1);
        ends(9, -9, 9, 1, 0);
        x.fact(3, 8, 8);
        x.fact(2, 0, 99);
        act(10, 2, 3, 1);
        fact(9, 0, 7, ~7L, 0, 1, 0);
        x.bits(2, 3, 0);
        act(10, 2, 3, 1);
        fact(9, 0, 4, ~4L, 0, 1, 0);
        x.fact(2, -1, 99);
        x.bits(2, 1, 1);
        act(10, 2, 3, 1);
        fact(9, -1, 7, 0, 0, 1, 0);
        x.fact(2, 0, 99);
        x.bits(2, 3, 2);
        act(10, 2, 3, 1);
        fact(9, 2, 6, ~4L, 2, 1, 0);
        x.fact(4, 0, 0);
        x.fact(5, -1, -1);
        x.fact(6, 7, 7);
        for (int op = 9; op <= 10; op++) {
            act(op, 0, 4, 1);
            all(9);
            act(op, 0, 5, 1);
            all(9);
            act(op, 6, 0, 1);
            all(9);
            act(op, 6, 4, 0);
            none(9);
        }
        x.fact(7, MIN, MIN);
        act(9, 7, 5, 1);
        constant(9, MIN);
        act(10, 7, 5, 1);
        constant(9, 0);
        act(10, 5, 6, 1);
        constant(9, -1);
        act(11, 6, 4, 1);
        constant(9, 7 * -4658895280553007687L);
        act(11, 7, 6, 1);
        constant(9, (MIN ^ MIN >>> 29) * -4658895280553007687L + 7);
        act(11, 0, 6, 1);
        all(9);
        x.fact(8, 0, 20);
        x.rest(8, 7, 3);
        act(13, 8, 0, 1);
        ends(9, -18, -4, 7, 3);
        x.fact(8, 200, 300);
        x.bits(8, 7, 1);
        act(14, 8, 0, 1);
        fact(9, -127, 121, 7, 1, 1, 0);
        act(17, 8, 0, 1);
        fact(9, 1, 249, ~0xF8L, 1, 1, 0);
        act(15, 8, 0, 1);
        ends(9, 201, 297, 1, 0);
        x.fact(8, -32768, 32767);
        x.rest(8, 65535, 0);
        act(15, 8, 0, 1);
        constant(9, 0);
        for (int op = 14; op < 20; op++) {
            int width = op % 3 == 2 ? 8 : op % 3 == 0 ? 16 : 32;
            long least = op < 17 ? -1L << width - 1 : 0, most = least + (1L << width) - 1;
            x.fact(8, least, most);
            x.rest(8, 3, least);
            act(op, 8, 0, 1);
            due("M stays where it fits", x.told(9, 4), 3);
            x.fact(8, least - 3, most);
            x.rest(8, 3, least);
            act(op, 8, 0, 1);
            ends(9, least, most, 1, 0);
            x.fact(8, least, most + 3);
            x.rest(8, 3, least);
            act(op, 8, 0, 1);
            ends(9, least, most, 1, 0);
        }
        x.fact(8, 0xFF80, 0xFF81);
        act(14, 8, 0, 1);
        fact(9, -128, -127, ~1L, -128, 1, 0);
        act(15, 8, 0, 1);
        ends(9, -128, -127, 1, 0);
        act(16, 8, 0, 1);
        ends(9, 0xFF80, 0xFF81, 1, 0);
        x.fact(8, -2, -1);
        act(18, 8, 0, 1);
        ends(9, 65534, 65535, 1, 0);
        act(19, 8, 0, 1);
        ends(9, 4294967294L, 4294967295L, 1, 0);
        x.fact(8, -1, -1);
        act(19, 8, 0, 1);
        constant(9, 4294967295L);
    }

    private static void wrongActs() {
        begin("5 act: NONE and BAD");
        x.fact(0, 3, 3);
        x.fact(1, 1, 0);
        for (int op = 0; op < 20; op++) {
            x.fact(9, 0, 0);
            act(op, 1, 0, 0);
            none(9);
            act(op, 0, 1, op < 12 ? 0 : 1);
        }
        x.fact(9, 77, 77);
        act(22, 0, 0, BAD);
        act(-1, 0, 0, BAD);
        act(12, 0, 16, BAD);
        act(12, 0, -1, BAD);
        act(0, 16, 0, BAD);
        act(0, -1, 0, BAD);
        due("act(0, 0, 0, 16)", x.act(0, 0, 0, 16), BAD);
        due("act(0, 0, 0, -1)", x.act(0, 0, 0, -1), BAD);
        constant(9, 77);
        due("act(0, 0, 0, 0): to is a and b", x.act(0, 0, 0, 0), 1);
        constant(0, 6);
    }

    private static void tellings() {
        begin("6 told");
        x.fact(3, 8, 15);
        x.rest(3, 3, 1);
        fact(3, 10, 13, ~7L, 8, 3, 1);
        due("told(3, 7)", x.told(3, 7), 0);
        due("told(3, -1)", x.told(3, -1), 0);
        due("told(-1, 0)", x.told(-1, 0), 0);
        due("told(16, 0)", x.told(16, 0), 0);
        due("told(16, 6)", x.told(16, 6), 0);
        x.fact(3, 1, 0);
        none(3);
        due("told(3, 7) of NONE", x.told(3, 7), 0);
        begin("7 isOf");
        x.fact(0, -50, 50);
        x.rest(0, 7, 3);
        x.bits(0, 1, 1);
        for (int v = -70; v < 70; v++) is("isOf(0, " + v + ")", x.isOf(0, v), v >= -50 && v <= 50 && Math.floorMod(v, 7) == 3 && (v & 1) == 1);
        is("isOf(-1, 0)", x.isOf(-1, 0), false);
        is("isOf(16, 0)", x.isOf(16, 0), false);
        x.fact(1, 1, 0);
        is("isOf(1, 0) of NONE", x.isOf(1, 0), false);
        x.fact(2, 6, 6);
        is("isOf(2, 6)", x.isOf(2, 6), true);
        is("isOf(2, 7)", x.isOf(2, 7), false);
    }

    private static void building() {
        begin("8 method");
        for (int m = 0; m < 6; m++) due("method()", x.method(), m);
        due("method()", x.method(), FULL);
        due("method()", x.method(), FULL);
        due("find(5)", x.find(5), 0);
        due("find(6)", x.find(6), BAD);
        begin("9 op");
        due("op(0, 20, 0, 0)", x.op(0, 20, 0, 0), BAD);
        x.method();
        int[][] bad = {{-1, 0, 0}, {28, 0, 0}, {0, 8, 0}, {0, 0, 8}, {0, -1, 0}, {0, 0, -1}, {11, 0, 8}, {12, 8, 0}, {19, 0, 8},
            {20, 8, 0}, {20, -1, 0}, {21, 0, 8}, {22, 0, 4}, {22, 8, 0}, {22, 0, -1}, {23, 0, 8}, {24, 8, 0}, {25, 0, 64},
            {25, 0, -1}, {25, 8, 0}, {26, 1, 0}, {26, 0, 33}, {26, 0, -1}, {27, 1, 0}, {27, 0, 1}};
        for (int[] b : bad) due("op(0, " + b[0] + ", " + b[1] + ", " + b[2] + ")", x.op(0, b[0], b[1], b[2]), BAD);
        due("op(1, 20, 0, 0)", x.op(1, 20, 0, 0), BAD);
        due("op(-1, 20, 0, 0)", x.op(-1, 20, 0, 0), BAD);
        int[][] good = {{0, 7, 7}, {11, 0, 7}, {12, 7, 0}, {19, 0, 7}, {20, 7, Integer.MIN_VALUE}, {20, 0, 2147483647}, {21, 7, 7},
            {22, 7, 3}, {23, 7, 7}, {24, 7, 7}, {25, 7, 63}, {26, 0, 32}, {26, 0, 0}, {27, 0, 0}};
        for (int i = 0; i < 32; i++) {
            int[] g = good[i % good.length];
            due("op(0, " + g[0] + ", " + g[1] + ", " + g[2] + ")", x.op(0, g[0], g[1], g[2]), i);
        }
        due("op(0, 27, 0, 0)", x.op(0, 27, 0, 0), FULL);
        due("op(0, 27, 0, 1)", x.op(0, 27, 0, 1), BAD);
        x.method();
        x.op(1, 20, 0, 5);
        x.find(0);
        x.find(1);
        due("op(1, 28, 0, 0)", x.op(1, 28, 0, 0), BAD);
        due("what is refused changes nothing", x.sum(1, 0), 1);
        x.op(1, 20, 0, 6);
        due("what was found is gone", x.sum(1, 0), STATE);
        due("op(0, 27, 0, 0)", x.op(0, 27, 0, 0), FULL);
        due("of the other it is not", x.sum(0, 0) > 0 ? 1 : 0, 1);
        begin("10 table");
        due("table(-1, 0)", x.table(-1, 0), BAD);
        due("table(4, 0)", x.table(4, 0), BAD);
        x.method();
        x.method();
        x.find(0);
        x.find(1);
        for (int i = 1; i <= 16; i++) due("table(3, " + i + ")", x.table(3, i), i);
        due("what was found of 0", x.sum(0, 0), STATE);
        due("what was found of 1", x.sum(1, 0), STATE);
        x.find(0);
        due("table(3, 0)", x.table(3, 0), FULL);
        due("table(4, 0)", x.table(4, 0), BAD);
        due("what is refused changes nothing", x.sum(0, 0), 0);
        due("table(2, 0)", x.table(2, MIN), 1);
    }

    private static void givens() {
        begin("11 given");
        x.fact(0, 3, 9);
        due("given(0, 0, 0)", x.given(0, 0, 0), BAD);
        x.method();
        x.method();
        x.op(0, 21, 1, 0);
        x.op(0, 27, 0, 0);
        x.find(0);
        x.find(1);
        int[][] bad = {{-1, 0, 0}, {2, 0, 0}, {0, -1, 0}, {0, 8, 0}, {0, 0, -1}, {0, 0, 16}};
        for (int[] b : bad) due("given(" + b[0] + ", " + b[1] + ", " + b[2] + ")", x.given(b[0], b[1], b[2]), BAD);
        x.fact(1, 1, 0);
        due("given(0, 0, 1) of NONE", x.given(0, 0, 1), STATE);
        due("given(0, 8, 1)", x.given(0, 8, 1), BAD);
        due("sum(0, 0)", x.sum(0, 0), 2);
        due("given(0, 0, 0)", x.given(0, 0, 0), 1);
        due("sum(0, 0)", x.sum(0, 0), STATE);
        due("sum(1, 0)", x.sum(1, 0), 0);
        x.fact(0, 100, 100);
        x.find(0);
        due("found(0, 0, 0, 2)", x.found(0, 0, 0, 2), 1);
        ends(2, 3, 9, 1, 0);
        due("found(0, 1, 1, 2)", x.found(0, 1, 1, 2), 1);
        ends(2, 3, 9, 1, 0);
        due("found(0, 0, 1, 2)", x.found(0, 0, 1, 2), 1);
        all(2);
        // not sharpened again: see TO SHARPEN
        x.fact(3, 17, 10000);
        x.bits(3, 15, 0);
        x.rest(3, 15, 1);
        x.given(0, 7, 3);
        x.find(0);
        x.found(0, 0, 7, 4);
        ends(4, 121, 9916, 15, 1);
        x.found(0, 1, 7, 4);
        ends(4, 121, 9916, 15, 1);
    }

    private static void give(int place, long low, long high) {
        x.fact(15, low, high);
        x.given(0, place, 15);
    }

    private static void lines(int[]... lines) {
        if (x.method() != 0) wrong++;
        for (int[] l : lines) if (x.op(0, l[0], l[1], l[2]) < 0) { wrong++; System.out.println(promise + ": a line was refused"); }
    }

    private static void foundEnds(int line, int place, long low, long high) {
        due("found(0, " + line + ", " + place + ", 14)", x.found(0, line, place, 14), 1);
        due("LOW ahead of " + line + " in " + place, x.told(14, 0), low);
        due("HIGH ahead of " + line + " in " + place, x.told(14, 1), high);
    }

    private static void notReached(int line) {
        due("found(0, " + line + ", 0, 14)", x.found(0, line, 0, 14), 0);
        none(14);
    }

    private static void branches() {
        begin("12 find: SAME");
        lines(new int[] {23, 0, 1}, new int[] {27, 0, 0}, new int[] {27, 0, 0});
        give(0, 0, 20);
        give(1, 20, 30);
        due("find(0)", x.find(0), 1);
        foundEnds(1, 0, 0, 20);
        foundEnds(1, 1, 20, 30);
        foundEnds(2, 0, 20, 20);
        foundEnds(2, 1, 20, 20);
        give(1, 20, 20);
        x.find(0);
        foundEnds(1, 0, 0, 19);
        foundEnds(1, 1, 20, 20);
        give(1, 0, 0);
        x.find(0);
        foundEnds(1, 0, 1, 20);
        give(0, 0, 0);
        due("find(0)", x.find(0), 1);
        notReached(1);
        foundEnds(2, 0, 0, 0);
        give(0, 1, 1);
        x.find(0);
        foundEnds(1, 0, 1, 1);
        notReached(2);
        give(0, 5, 5);
        give(1, 3, 5);
        x.find(0);
        foundEnds(1, 1, 3, 4);
        begin("12 find: LESS");
        lines(new int[] {24, 0, 1}, new int[] {27, 0, 0}, new int[] {27, 0, 0});
        give(0, 0, 20);
        give(1, 10, 15);
        due("find(0)", x.find(0), 1);
        foundEnds(1, 0, 10, 20);
        foundEnds(1, 1, 10, 15);
        foundEnds(2, 0, 0, 14);
        foundEnds(2, 1, 10, 15);
        give(0, 12, 13);
        x.find(0);
        foundEnds(1, 1, 10, 13);
        foundEnds(2, 1, 13, 15);
        give(0, 16, 20);
        x.find(0);
        notReached(2);
        give(0, 0, 9);
        x.find(0);
        notReached(1);
        give(1, MIN, MIN);
        x.find(0);
        notReached(2);
        give(0, MAX, MAX);
        give(1, MIN, MAX);
        x.find(0);
        foundEnds(1, 1, MIN, MAX);
        notReached(2);
        begin("12 find: LESS of one PLACE");
        lines(new int[] {24, 0, 0}, new int[] {27, 0, 0}, new int[] {27, 0, 0});
        give(0, 3, 9);
        x.find(0);
        foundEnds(1, 0, 3, 9);
        foundEnds(2, 0, 4, 9);
        begin("12 find: BIT");
        lines(new int[] {25, 0, 3}, new int[] {27, 0, 0}, new int[] {27, 0, 0});
        give(0, 3, 13);
        x.find(0);
        foundEnds(1, 0, 3, 7);
        foundEnds(2, 0, 8, 13);
        give(0, 8, 13);
        x.find(0);
        notReached(1);
        give(0, 16, 23);
        x.find(0);
        notReached(2);
    }

    private static void findings() {
        begin("12 find");
        due("find(0)", x.find(0), BAD);
        due("find(-1)", x.find(-1), BAD);
        x.method();
        due("sum(0, 0)", x.sum(0, 0), STATE);
        due("walk(0, 0)", x.walk(0, 0), STATE);
        due("find(0) without LINES", x.find(0), 0);
        due("sum(0, 0)", x.sum(0, 0), 0);
        begin("12 find: GO, END, behind the last");
        lines(new int[] {26, 0, 2}, new int[] {20, 0, 1}, new int[] {23, 0, 1}, new int[] {26, 0, 32}, new int[] {27, 0, 0});
        due("find(0)", x.find(0), 1);
        notReached(1);
        due("sum(0, 0)", x.sum(0, 0), 4);
        begin("12 find: backward");
        lines(new int[] {26, 0, 2}, new int[] {27, 0, 0}, new int[] {26, 0, 1});
        due("find(0)", x.find(0), 2);
        due("find(0) again", x.find(0), 2);
        begin("12 find: to itself");
        lines(new int[] {26, 0, 0});
        due("find(0)", x.find(0), 1);
        begin("12 find: NONE goes nowhere");
        lines(new int[] {20, 0, 1}, new int[] {20, 1, 0}, new int[] {9, 0, 1}, new int[] {27, 0, 0});
        due("find(0)", x.find(0), 1);
        notReached(3);
        due("sum(0, 1)", x.sum(0, 1), 0);
        begin("12 find: TABLES");
        lines(new int[] {22, 0, 1}, new int[] {21, 1, 0});
        due("find(0), an empty TABLE", x.find(0), 1);
        notReached(1);
        for (long v : new long[] {5, 100, 11, 17}) x.table(1, v);
        x.fact(0, -7, 7);
        x.rest(0, 3, 0);
        x.given(0, 0, 0);
        x.find(0);
        foundEnds(1, 0, 5, 17);
        due("M of 5 and 17", x.told(14, 4), 3);
        give(0, 4, 9);
        x.find(0);
        notReached(1);
        begin("12 find: a JOIN sharpens once more, what goes anew does not");
        lines(new int[] {25, 1, 0}, new int[] {21, 2, 2}, new int[] {23, 3, 4}, new int[] {27, 0, 0}, new int[] {27, 0, 0});
        x.fact(0, 17, 10000);
        x.bits(0, 15, 0);
        x.rest(0, 15, 1);
        x.given(0, 0, 0);
        x.given(0, 3, 0);
        give(4, 5000, 5000);
        due("find(0)", x.find(0), 1);
        foundEnds(1, 0, 121, 9916);
        foundEnds(2, 0, 211, 9856);
        foundEnds(2, 3, 211, 9856);
        foundEnds(3, 0, 211, 9856);
        // not SAME as a CONSTANT: sharpened, though neither end is that
        foundEnds(3, 3, 256, 9856);
        notReached(4);
        begin("12 find: one PLACE by another");
        lines(new int[] {12, 1, 0}, new int[] {1, 1, 0}, new int[] {21, 2, 1}, new int[] {20, 3, -6}, new int[] {27, 0, 0});
        give(0, 2, 4);
        x.find(0);
        foundEnds(1, 1, -4, -2);
        foundEnds(2, 1, -8, -4);
        foundEnds(3, 2, -8, -4);
        foundEnds(4, 3, -6, -6);
    }

    /**
     * A count upward by 1 from 0 without an end: HIGH is made the greatest from the fourth time on, but for the bits
     * that are still KNOWN, one fewer in each ROUND; so that 30 ROUNDS do not do.
     */
    private static void widening() {
        begin("12 find: widening");
        lines(new int[] {20, 0, 0}, new int[] {20, 1, 1}, new int[] {0, 0, 1}, new int[] {26, 0, 2}, new int[] {27, 0, 0},
            new int[] {11, 0, 0});
        due("find(0)", x.find(0), 30);
        for (int line = 0; line < 6; line++) {
            foundEnds(line, 0, MIN, MAX);
            foundEnds(line, 1, MIN, MAX);
        }
        due("sum(0, 0)", x.sum(0, 0), 6);
        due("sum(0, 1)", x.sum(0, 1), 1);
        due("sum(0, 2)", x.sum(0, 2), 0);
        // ahead of 2 it is greater in each ROUND, ahead of 3 in each but the first; three times each it stays so
        due("sum(0, 3)", x.sum(0, 3), 30 - 3 + 29 - 3);
        due("find(0) again", x.find(0), 30);
        due("sum(0, 3) again", x.sum(0, 3), 53);
        begin("12 find: 30 ROUNDS do not do for 32 LINES");
        lines(new int[] {20, 0, 0}, new int[] {20, 1, 1}, new int[] {0, 0, 1}, new int[] {26, 0, 2});
        for (int i = 4; i < 32; i++) x.op(0, 27, 0, 0);
        due("find(0)", x.find(0), 30);
        due("sum(0, 0)", x.sum(0, 0), 32);
        foundEnds(31, 7, MIN, MAX);
        begin("12 find: widening downward to a bound");
        lines(new int[] {20, 0, -1}, new int[] {20, 1, 1}, new int[] {20, 2, -6}, new int[] {24, 2, 0}, new int[] {27, 0, 0},
            new int[] {1, 0, 1}, new int[] {26, 0, 3});
        // ahead of 3 -1, .. -2, .. -3, .. -4, and in ROUND 4 .. -5 for the fourth time: the least with these bits, -8;
        // in ROUND 5 ahead of 5 .. -5 likewise -8, ahead of 6 .. -9 likewise -16, and so ahead of 3 -16; ROUND 6 adds nothing
        due("find(0)", x.find(0), 6);
        foundEnds(3, 0, -16, -1);
        foundEnds(4, 0, -16, -6);
        foundEnds(5, 0, -8, -1);
        foundEnds(6, 0, -16, -2);
        due("sum(0, 3)", x.sum(0, 3), 4);
        begin("12 find: a count that is bounded");
        lines(new int[] {20, 0, 0}, new int[] {20, 1, 1}, new int[] {20, 2, 3}, new int[] {24, 0, 2}, new int[] {27, 0, 0},
            new int[] {0, 0, 1}, new int[] {26, 0, 3});
        due("find(0)", x.find(0), 4);
        foundEnds(3, 0, 0, 3);
        foundEnds(4, 0, 3, 3);
        foundEnds(5, 0, 0, 2);
        due("sum(0, 3)", x.sum(0, 3), 0);
    }

    private static void foundCalls() {
        begin("13 found");
        lines(new int[] {27, 0, 0}, new int[] {20, 0, 1});
        due("found(0, 0, 0, 0)", x.found(0, 0, 0, 0), STATE);
        int[][] bad = {{-1, 0, 0, 0}, {1, 0, 0, 0}, {0, -1, 0, 0}, {0, 2, 0, 0}, {0, 0, -1, 0}, {0, 0, 8, 0}, {0, 0, 0, -1}, {0, 0, 0, 16}};
        for (int[] b : bad) due("found ahead of find", x.found(b[0], b[1], b[2], b[3]), BAD);
        x.find(0);
        for (int[] b : bad) due("found behind find", x.found(b[0], b[1], b[2], b[3]), BAD);
        x.fact(0, 1, 2);
        due("found(0, 0, 7, 0)", x.found(0, 0, 7, 0), 1);
        all(0);
        due("found(0, 1, 7, 0)", x.found(0, 1, 7, 0), 0);
        none(0);
    }

    private static void sumCalls() {
        begin("14 sum");
        due("sum(0, 0)", x.sum(0, 0), BAD);
        lines(new int[] {20, 0, 5}, new int[] {9, 1, 0}, new int[] {9, 0, 1}, new int[] {6, 2, 1}, new int[] {11, 3, 3},
            new int[] {11, 5, 5}, new int[] {20, 6, 0}, new int[] {10, 7, 6}, new int[] {27, 0, 0}, new int[] {11, 0, 0});
        due("sum(0, 4) ahead of find", x.sum(0, 4), BAD);
        due("sum(0, 3) ahead of find", x.sum(0, 3), STATE);
        give(5, 3, 3);
        x.find(0);
        due("sum(0, 0)", x.sum(0, 0), 9);
        // by no constant; a count not known; mixed; by the constant 0
        due("sum(0, 1)", x.sum(0, 1), 4);
        // 5 in nine LINES, 0 in two (behind 9 0 1 it is no constant), 6 in two
        due("sum(0, 2)", x.sum(0, 2), 9 + 2 + 2);
        due("sum(0, 3)", x.sum(0, 3), 0);
        due("sum(0, -1)", x.sum(0, -1), BAD);
        due("sum(0, 4)", x.sum(0, 4), BAD);
        due("sum(1, 0)", x.sum(1, 0), BAD);
        due("sum(-1, 0)", x.sum(-1, 0), BAD);
    }

    private static void runs() {
        begin("15 put");
        due("put(0, 5)", x.put(0, 5), 0);
        due("put(0, MIN)", x.put(0, MIN), 5);
        due("put(0, 0)", x.put(0, 0), MIN);
        due("put(7, 1)", x.put(7, 1), 0);
        due("put(8, 1)", x.put(8, 1), 0);
        due("put(8, 1)", x.put(8, 1), 0);
        due("put(-1, 1)", x.put(-1, 1), 0);
        due("put(-1, 1)", x.put(-1, 1), 0);
        due("put(7, 2)", x.put(7, 2), 1);
        begin("16 walk");
        due("walk(0, 0)", x.walk(0, 0), BAD);
        lines(new int[] {0, 0, 1}, new int[] {24, 2, 0}, new int[] {26, 0, 0}, new int[] {27, 0, 0}, new int[] {20, 3, 9});
        due("walk(0, 1)", x.walk(0, 1), STATE);
        due("ran(0)", x.ran(0), 0);
        due("walk(0, 1001)", x.walk(0, 1001), BAD);
        x.find(0);
        due("walk(0, 1001)", x.walk(0, 1001), BAD);
        due("walk(0, -1)", x.walk(0, -1), BAD);
        due("walk(1, 1)", x.walk(1, 1), BAD);
        due("walk(-1, 1)", x.walk(-1, 1), BAD);
        x.put(0, 1);
        x.put(1, 2);
        x.put(2, 6);
        due("walk(0, 0)", x.walk(0, 0), 0);
        due("ran(0)", x.ran(0), 3);
        due("ran(1)", x.ran(1), 0);
        due("now(0)", x.now(0), 1);
        due("walk(0, 4)", x.walk(0, 4), 4);
        due("ran(0)", x.ran(0), 3);
        due("ran(1)", x.ran(1), 1);
        due("now(0)", x.now(0), 5);
        // 3, 5, 7 and out: three times add and test, twice back, END
        due("walk(0, 1000)", x.walk(0, 1000), 9);
        due("ran(0)", x.ran(0), 1);
        due("ran(1)", x.ran(1), 5);
        due("ran(2)", x.ran(2), BAD);
        due("now(0)", x.now(0), 7);
        due("now(3)", x.now(3), 0);
        due("walk(0, 9)", x.walk(0, 9), 9);
        due("ran(0)", x.ran(0), 1);
        x.put(1, 0);
        due("walk(0, 1000)", x.walk(0, 1000), 1000);
        due("ran(0)", x.ran(0), 3);
        give(0, 5, 9);
        due("walk(0, 1)", x.walk(0, 1), STATE);
        x.find(0);
        due("walk(0, 1): 1 is not OF 5 .. 9", x.walk(0, 1), STATE);
        due("the latest run is as it was", x.ran(1), 1);
        x.put(0, 9);
        due("walk(0, 1)", x.walk(0, 1), 1);
        due("17 now(0)", x.now(0), 9);
        due("17 now(8)", x.now(8), 0);
        due("17 now(-1)", x.now(-1), 0);
        due("18 ran(3)", x.ran(3), BAD);
        due("18 ran(-1)", x.ran(-1), BAD);
        begin("16 walk without LINES");
        x.method();
        x.find(0);
        due("walk(0, 5)", x.walk(0, 5), 0);
        due("ran(0)", x.ran(0), 1);
        due("ran(1)", x.ran(1), 0);
        x.op(0, 20, 0, 1);
        due("ran(1), of that run", x.ran(1), 0);
        stops();
    }

    private static void stops() {
        begin("16 walk: STOPS");
        lines(new int[] {20, 0, 3}, new int[] {10, 0, 1}, new int[] {22, 0, 2}, new int[] {9, 0, 1}, new int[] {26, 0, 0});
        x.table(2, 4);
        x.table(2, 0);
        x.find(0);
        due("walk(0, 9): % 0", x.walk(0, 9), 1);
        due("ran(0)", x.ran(0), 2);
        due("ran(1)", x.ran(1), 1);
        due("now(0)", x.now(0), 3);
        due("walk(0, 1)", x.walk(0, 1), 1);
        due("ran(0)", x.ran(0), 3);
        x.put(1, 4);
        due("walk(0, 9): TABLE 2 has no place 3", x.walk(0, 9), 2);
        due("ran(0)", x.ran(0), 2);
        due("ran(1)", x.ran(1), 2);
        due("now(0)", x.now(0), 3);
        x.put(1, 2);
        due("walk(0, 9)", x.walk(0, 9), 9);
        due("now(0), 0 / 2 and 3 % 2 again", x.now(0), 0);
        due("ran(1)", x.ran(1), 4);
        due("ran(2)", x.ran(2), BAD);
        begin("16 walk: every op");
        lines(new int[] {20, 7, 2});
        for (int op = 0; op < 12; op++) x.op(0, op, 0, 1);
        x.find(0);
        x.put(0, 1000);
        x.put(1, 66);
        long v = 1066 - 66;
        v = (v * 66 & 66 | 66) ^ 66;
        due("walk(0, 7)", x.walk(0, 7), 7);
        due("now(0)", x.now(0), v);
        due("walk(0, 13)", x.walk(0, 13), 13);
        due("now(0)", x.now(0), ((v << 2 >> 2 >>> 2) / 66 % 66 ^ 0) * -4658895280553007687L + 66);
        begin("16 walk: of one PLACE");
        lines(new int[] {12, 0, 7}, new int[] {13, 1, 7}, new int[] {14, 2, 7}, new int[] {15, 3, 7}, new int[] {16, 4, 7},
            new int[] {17, 5, 7}, new int[] {18, 6, 7}, new int[] {19, 7, 7});
        x.find(0);
        long w = 0x123456789ABCDEF0L;
        x.put(7, w);
        due("walk(0, 8)", x.walk(0, 8), 8);
        due("ran(0)", x.ran(0), 1);
        long[] want = {-w, ~w, (byte) w, (short) w, (int) w, 0xF0, 0xDEF0, 0x9ABCDEF0L};
        for (int p = 0; p < 8; p++) due("now(" + p + ")", x.now(p), want[p]);
        begin("16 walk: TABLES and their ends");
        lines(new int[] {22, 0, 3});
        x.table(3, -5);
        x.table(3, 8);
        x.find(0);
        for (long[] t : new long[][] {{-1, 0, -1}, {0, 1, -5}, {1, 1, 8}, {2, 0, 2}, {1L << 32, 0, 1L << 32}, {MIN, 0, MIN}}) {
            x.put(0, t[0]);
            due("walk(0, 1)", x.walk(0, 1), t[1]);
            due("ran(0)", x.ran(0), t[1] == 1 ? 1 : 2);
            due("now(0)", x.now(0), t[2]);
        }
        begin("16 walk: SAME, LESS, BIT at their edges");
        lines(new int[] {24, 0, 1}, new int[] {20, 2, 1}, new int[] {25, 0, 1}, new int[] {20, 3, 1}, new int[] {21, 4, 0}, new int[] {27, 0, 0});
        x.find(0);
        x.put(0, 5);
        x.put(1, 5);
        due("walk(0, 9)", x.walk(0, 9), 6);
        due("5 is not below 5", x.now(2), 1);
        due("bit 1 of 5", x.now(3), 1);
        due("a copy", x.now(4), 5);
        begin("16 walk: passing over");
        lines(new int[] {23, 0, 1}, new int[] {20, 2, 1}, new int[] {24, 0, 1}, new int[] {20, 3, 1}, new int[] {25, 0, 63},
            new int[] {20, 4, 1}, new int[] {23, 0, 0}, new int[] {20, 5, 1});
        x.find(0);
        x.put(0, -1);
        due("walk(0, 9)", x.walk(0, 9), 5);
        due("ran(1): behind the last by 23", x.ran(1), 8);
        due("ran(0)", x.ran(0), 1);
        due("not SAME", x.now(2), 1);
        due("LESS", x.now(3), 0);
        due("BIT 63", x.now(4), 0);
        due("SAME", x.now(5), 0);
    }

    public static void main(String[] args) {
        newObject();
        factCalls();
        bitsCalls();
        restCalls();
        sharpening();
        joins();
        sums();
        bitActs();
        divisions();
        wrongActs();
        tellings();
        building();
        givens();
        branches();
        findings();
        widening();
        foundCalls();
        sumCalls();
        runs();
        System.out.println(wrong == 0 ? "all answers are as due" : wrong + " answers are not as due");
        if (wrong != 0) System.exit(1);
    }
}

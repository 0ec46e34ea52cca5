/**
 * What the tests of the bounds share: a new object for each sentence of the document, which is named when an answer is
 * not the one that is due.
 */
abstract class Bounds {
    static final long MIN = Long.MIN_VALUE, MAX = Long.MAX_VALUE;
    static final int BAD = -1, FULL = -2, STATE = -3;
    /** What an int can be wrong by: just outside, and far outside on both sides. */
    static final int[] FAR = {Integer.MIN_VALUE, -1000, -1, Integer.MAX_VALUE};
    static BitCongruences x;
    private static String sentence = "";
    private static int sentences = 0, wrong = 0, answers = 0;

    static void says(String words) {
        anew();
        sentence = words;
        sentences++;
    }

    static void anew() {
        noMoreThanPromised();
        x = new BitCongruences();
    }

    /** Nothing is promised of an object after its 512th call. */
    private static void noMoreThanPromised() {
        if (answers > 512) {
            wrong++;
            System.out.println("\"" + sentence + "\": " + answers + " calls are more than are promised");
        }
        answers = 0;
    }

    static void due(String call, long got, long want) {
        answers++;
        if (got == want) return;
        wrong++;
        System.out.println("\"" + sentence + "\": " + call + " answered " + got + ", due is " + want);
    }

    static void end() {
        noMoreThanPromised();
        System.out.println(sentences + " sentences, " + wrong + " answers are not as due");
        if (wrong != 0) System.exit(1);
    }

    // ---- facts

    static void between(int f, long low, long high) { due("fact(" + f + ", " + low + ", " + high + ")", x.fact(f, low, high), 1); }

    static void number(int f, long v) { between(f, v, v); }

    static void nothing(int f) { due("fact(" + f + ", 1, 0)", x.fact(f, 1, 0), 0); }

    static void known(int f, long known, long values, int want) { due("bits(" + f + ", " + known + ", " + values + ")", x.bits(f, known, values), want); }

    static void by(int f, int m, long r, int want) { due("rest(" + f + ", " + m + ", " + r + ")", x.rest(f, m, r), want); }

    static void act(int op, int a, int b, int to, int want) {
        due("act(" + op + ", " + a + ", " + b + ", " + to + ")", x.act(op, a, b, to), want);
    }

    static void isFact(int f, long low, long high, long known, long values, long m, long rest) {
        long[] want = {low, high, known, values, m, rest, 0};
        for (int what = 0; what < 7; what++) due("told(" + f + ", " + what + ")", x.told(f, what), want[what]);
    }

    static void isBetween(int f, long low, long high, long m, long rest) {
        due("told(" + f + ", 0)", x.told(f, 0), low);
        due("told(" + f + ", 1)", x.told(f, 1), high);
        due("told(" + f + ", 4)", x.told(f, 4), m);
        due("told(" + f + ", 5)", x.told(f, 5), rest);
        due("told(" + f + ", 6)", x.told(f, 6), 0);
    }

    static void isAll(int f) { isFact(f, MIN, MAX, 0, 0, 1, 0); }

    static void isNumber(int f, long v) { isFact(f, v, v, -1, v, 1, 0); }

    static void isNone(int f) {
        for (int what = 0; what < 7; what++) due("told(" + f + ", " + what + ") of NONE", x.told(f, what), what == 6 ? 1 : 0);
    }

    static void of(int f, long v, boolean want) { due("isOf(" + f + ", " + v + ")", x.isOf(f, v) ? 1 : 0, want ? 1 : 0); }

    /**
     * FACT f is of the multiples of 16 that are 1 by 15, in 17 .. 10000, and SHARPENED six times, which is not enough:
     * it is 121 .. 9916 then; once more by another six times 211 .. 9856; and 256 .. 9856 at last.
     */
    static void unfinished(int f) {
        between(f, 17, 10000);
        known(f, 15, 0, 1);
        by(f, 15, 1, 1);
    }

    // ---- METHOD 0 and those behind it

    static void line(int method, int op, int a, int b, int want) {
        due("op(" + method + ", " + op + ", " + a + ", " + b + ")", x.op(method, op, a, b), want);
    }

    static void lines(int[]... lines) {
        due("method()", x.method(), 0);
        for (int i = 0; i < lines.length; i++) line(0, lines[i][0], lines[i][1], lines[i][2], i);
    }

    static int[] l(int op, int a, int b) { return new int[] {op, a, b}; }

    /** By FACT 15. */
    static void give(int place, long low, long high) {
        between(15, low, high);
        due("given(0, " + place + ", 15)", x.given(0, place, 15), 1);
    }

    static void find(int rounds) { due("find(0)", x.find(0), rounds); }

    /** By FACT 14. */
    static void ahead(int line, int place, long low, long high) {
        due("found(0, " + line + ", " + place + ", 14)", x.found(0, line, place, 14), 1);
        due("LOW ahead of LINE " + line + " in PLACE " + place, x.told(14, 0), low);
        due("HIGH ahead of LINE " + line + " in PLACE " + place, x.told(14, 1), high);
    }

    static void unreached(int line) {
        for (int place = 0; place < 8; place += 7) {
            due("found(0, " + line + ", " + place + ", 14)", x.found(0, line, place, 14), 0);
            isNone(14);
        }
    }

    static void sum(int what, int want) { due("sum(0, " + what + ")", x.sum(0, what), want); }

    static void put(int place, long v, long was) { due("put(" + place + ", " + v + ")", x.put(place, v), was); }

    static void walk(int lines, int want) { due("walk(0, " + lines + ")", x.walk(0, lines), want); }

    static void now(int place, long want) { due("now(" + place + ")", x.now(place), want); }

    static void ran(int how, int next) {
        due("ran(0)", x.ran(0), how);
        due("ran(1)", x.ran(1), next);
        due("ran(2)", x.ran(2), BAD);
    }
}

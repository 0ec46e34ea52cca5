/**
 * Long runs of calls, made by a counter (the same ones each time), on BitCongruences and on NaiveModel: every answer
 * has to be the same, and no number that runs may be other than was found.
 */
public final class RandomRunsTest {
    private static final long MAX = Long.MAX_VALUE;
    private static int wrong = 0;
    private static long calls = 0;
    private static long state;

    private static long raw() {
        state += 0x9E3779B97F4A7C15L;
        long z = state;
        z = (z ^ z >>> 30) * 0xBF58476D1CE4E5B9L;
        z = (z ^ z >>> 27) * 0x94D049BB133111EBL;
        return z ^ z >>> 31;
    }

    private static int below(int n) { return (int) Long.remainderUnsigned(raw(), n); }

    private static int about(int size) { return below(40) == 0 ? below(3) == 0 ? -1 : size + below(2) : below(size); }

    private static long number() {
        switch (below(8)) {
            case 0: return below(5) - 2;
            case 1: return below(64);
            case 2: return below(2000) - 1000;
            case 3: return 1L << below(64);
            case 4: return (1L << below(64)) - 1 - below(2);
            case 5: return new long[] {Long.MIN_VALUE, Long.MAX_VALUE, Long.MIN_VALUE + 1, Long.MAX_VALUE - 1, 0, -1}[below(6)];
            case 6: return raw() >> below(64);
            default: return below(100);
        }
    }

    private static int modulus() {
        switch (below(6)) {
            case 0: return below(20);
            case 1: return 2147483647 - 2 * below(10);
            case 2: return (int) (raw() >>> 33 + below(25)) | 1;
            default: return 2 * below(40) + 1;
        }
    }

    private static void due(int run, String call, long got, long want) {
        calls++;
        if (got != want) {
            wrong++;
            if (wrong < 40) System.out.println("run " + run + ": " + call + " answered " + got + ", due is " + want);
        }
    }

    private static void tell(int run, BitCongruences x, NaiveModel y, int f) {
        for (int what = 0; what < 7; what++) due(run, "told(" + f + ", " + what + ")", x.told(f, what), y.told(f, what));
    }

    /** Low bits and a rest that agree only far off, so that sharpening six times is not enough. */
    private static void hardFact(int run, BitCongruences x, NaiveModel y, int f) {
        long low = number(), high = below(3) == 0 ? MAX : low + below(100000), known = (1L << 1 + below(7)) - 1, values = raw();
        int m = 2 * below(60) + 9;
        due(run, "fact(" + f + ", " + low + ", " + high + ")", x.fact(f, low, high), y.fact(f, low, high));
        due(run, "bits(" + f + ", " + known + ", " + values + ")", x.bits(f, known, values), y.bits(f, known, values));
        due(run, "rest(" + f + ", " + m + ", " + values + ")", x.rest(f, m, values), y.rest(f, m, values));
        tell(run, x, y, f);
    }

    private static void factCall(int run, BitCongruences x, NaiveModel y, int kind) {
        int f = about(16);
        if (below(8) == 0) hardFact(run, x, y, below(16));
        if (kind == 0) {
            long low = number(), high = below(2) == 0 ? number() : low + below(300);
            due(run, "fact(" + f + ", " + low + ", " + high + ")", x.fact(f, low, high), y.fact(f, low, high));
        } else if (kind == 1) {
            long known = below(3) == 0 ? 1L << below(64) : below(2) == 0 ? raw() & raw() & raw() : number(), values = raw();
            due(run, "bits(" + f + ", " + known + ", " + values + ")", x.bits(f, known, values), y.bits(f, known, values));
        } else if (kind == 2) {
            int m = modulus();
            long r = number();
            due(run, "rest(" + f + ", " + m + ", " + r + ")", x.rest(f, m, r), y.rest(f, m, r));
        } else {
            int op = about(22), a = about(16), b = about(16);
            due(run, "act(" + op + ", " + a + ", " + b + ", " + f + ")", x.act(op, a, b, f), y.act(op, a, b, f));
        }
        tell(run, x, y, f);
        long v = number();
        due(run, "isOf(" + f + ", " + v + ")", x.isOf(f, v) ? 1 : 0, y.isOf(f, v) ? 1 : 0);
    }

    private static void line(int run, BitCongruences x, NaiveModel y, int method) {
        int op = about(28), a = about(8), b = about(8);
        if (below(6) == 0) op = 23 + below(4);
        if (op == 20) b = (int) number();
        if (op == 22) b = about(4);
        if (op == 25) b = about(64);
        if (op == 26) { a = below(20) == 0 ? 1 : 0; b = below(3) == 0 ? about(33) : below(12); }
        if (op == 27) { a = below(20) == 0 ? 1 : 0; b = below(20) == 0 ? 1 : 0; }
        due(run, "op(" + method + ", " + op + ", " + a + ", " + b + ")", x.op(method, op, a, b), y.op(method, op, a, b));
    }

    private static void findings(int run, BitCongruences x, NaiveModel y, int method) {
        due(run, "find(" + method + ")", x.find(method), y.find(method));
        for (int what = -1; what < 5; what++) due(run, "sum(" + method + ", " + what + ")", x.sum(method, what), y.sum(method, what));
        for (int i = 0; i < 12; i++) {
            int line = about(12), place = about(8), f = about(16);
            due(run, "found(" + method + ", " + line + ", " + place + ", " + f + ")", x.found(method, line, place, f), y.found(method, line, place, f));
            tell(run, x, y, f);
        }
    }

    private static void walks(int run, BitCongruences x, NaiveModel y, int method) {
        int lines = below(4) == 0 ? below(12) : about(1001);
        due(run, "walk(" + method + ", " + lines + ")", x.walk(method, lines), y.walk(method, lines));
        for (int what = -1; what < 4; what++) due(run, "ran(" + what + ")", x.ran(what), y.ran(what));
        due(run, "no number is other than was found: ran(2)", x.ran(2), -1);
        for (int p = -1; p < 9; p++) due(run, "now(" + p + ")", x.now(p), y.now(p));
    }

    private static void methodRun(int run) {
        BitCongruences x = new BitCongruences();
        NaiveModel y = new NaiveModel();
        for (int f = 0; f < 16; f++) {
            for (int i = below(4); i > 0; i--) factCall(run, x, y, below(3));
        }
        for (int i = below(30); i > 0; i--) {
            int t = about(4);
            long v = below(2) == 0 ? below(12) : number();
            due(run, "table(" + t + ", " + v + ")", x.table(t, v), y.table(t, v));
        }
        int methods = 1 + below(2);
        for (int m = 0; m < methods; m++) {
            due(run, "method()", x.method(), y.method());
            for (int i = 2 + below(below(6) == 0 ? 36 : 14); i > 0; i--) line(run, x, y, m);
        }
        for (int i = 0; i < 40; i++) {
            int m = about(methods), p = about(8), f = about(16);
            switch (below(10)) {
                case 0: line(run, x, y, m); break;
                case 1: factCall(run, x, y, below(4)); break;
                case 2: due(run, "given(" + m + ", " + p + ", " + f + ")", x.given(m, p, f), y.given(m, p, f)); break;
                case 3: case 4: findings(run, x, y, m); break;
                case 5: case 6: {
                    long v = number();
                    for (int tries = 0; tries < 30 && m >= 0 && m < methods && p >= 0 && p < 8 && !y.programs.get(m).given[p].holds(v); tries++) v = number();
                    due(run, "put(" + p + ", " + v + ")", x.put(p, v), y.put(p, v));
                    break;
                }
                default: walks(run, x, y, m); break;
            }
        }
    }

    private static void add(int run, BitCongruences x, NaiveModel y, int op, int a, int b) {
        due(run, "op(0, " + op + ", " + a + ", " + b + ")", x.op(0, op, a, b), y.op(0, op, a, b));
    }

    private static int constant() { return below(3) == 0 ? below(7) - 3 : below(2) == 0 ? (int) number() : below(200); }

    /** Constants, given facts, and a body that is gone through again and again: this is where facts widen. */
    private static void loopRun(int run) {
        BitCongruences x = new BitCongruences();
        NaiveModel y = new NaiveModel();
        due(run, "method()", x.method(), y.method());
        for (int i = below(8); i > 0; i--) {
            long v = below(9);
            due(run, "table(0, " + v + ")", x.table(0, v), y.table(0, v));
        }
        for (int p = 0; p < 8; p++) {
            if (below(3) == 0) {
                int f = below(16);
                if (below(2) == 0) hardFact(run, x, y, f);
                else for (int i = 1 + below(3); i > 0; i--) factCall(run, x, y, below(3));
                due(run, "given(0, " + p + ", " + f + ")", x.given(0, p, f), y.given(0, p, f));
            } else {
                add(run, x, y, 20, p, constant());
            }
        }
        int top = y.programs.get(0).lines.size();
        for (int i = 2 + below(14); i > 0; i--) {
            int kind = below(10);
            if (kind < 5) add(run, x, y, new int[] {0, 0, 0, 1, 1, 2, 3, 4, 5, 6, 7, 8, 9, 10, 10}[below(15)], below(8), below(8));
            else if (kind == 5 && below(2) == 0) add(run, x, y, 20, below(8), constant());
            else if (kind == 5) add(run, x, y, new int[] {12, 13, 14, 15, 16, 17, 18, 19, 21, 21, 22}[below(11)], below(8), 0);
            else if (kind == 6) add(run, x, y, 25, below(8), below(6));
            else if (kind == 7) add(run, x, y, 26, 0, top + below(12));
            else add(run, x, y, 23 + below(2), below(8), below(8));
        }
        add(run, x, y, 26, 0, top);
        findings(run, x, y, 0);
        for (int line = 0; line < y.programs.get(0).lines.size(); line++) {
            for (int p = 0; p < 8; p++) {
                due(run, "found(0, " + line + ", " + p + ", 0)", x.found(0, line, p, 0), y.found(0, line, p, 0));
                tell(run, x, y, 0);
            }
        }
        for (int p = 0; p < 8; p++) {
            long v = number();
            for (int tries = 0; tries < 50 && !y.programs.get(0).given[p].holds(v); tries++) v = number();
            if (!y.programs.get(0).given[p].holds(v)) v = y.programs.get(0).given[p].low.longValue();
            due(run, "put(" + p + ", " + v + ")", x.put(p, v), y.put(p, v));
        }
        walks(run, x, y, 0);
        walks(run, x, y, 0);
    }

    private static void factRun(int run) {
        BitCongruences x = new BitCongruences();
        NaiveModel y = new NaiveModel();
        for (int i = 0; i < 200; i++) factCall(run, x, y, below(9));
    }

    public static void main(String[] args) {
        int factRuns = args.length > 0 ? Integer.parseInt(args[0]) : 400;
        int methodRuns = args.length > 1 ? Integer.parseInt(args[1]) : 600;
        state = args.length > 2 ? Long.parseLong(args[2]) : 1;
        for (int run = 0; run < factRuns; run++) factRun(run);
        for (int run = 0; run < methodRuns; run++) methodRun(factRuns + run);
        for (int run = 0; run < methodRuns; run++) loopRun(factRuns + methodRuns + run);
        System.out.println(calls + " answers compared, " + wrong + " are not as due");
        if (wrong != 0) System.exit(1);
    }
}

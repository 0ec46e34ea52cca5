import java.lang.reflect.Array;
import java.lang.reflect.Field;

/** Each sentence of promises 15 to 18, and of '3 METHODS' on runs, that names a bound, by answers worked out by hand. */
public final class RunBoundsTest extends Bounds {
    private static final int[] END = {27, 0, 0};

    private static void putting() {
        says("The number that is put in at a PLACE, for all runs that begin: what it was; 0 without one.");
        for (int p = 0; p < 8; p++) put(p, p + 1, 0);
        put(0, MIN, 1);
        put(0, MAX, MIN);
        put(0, 0, MAX);
        put(7, 9, 8);
        put(8, 5, 0);
        put(8, 5, 0);
        for (int far : FAR) {
            put(far, 5, 0);
            put(far, 5, 0);
        }
        lines(END);
        find(1);
        walk(1, 1);
        for (int p = 0; p < 8; p++) now(p, p == 0 ? 0 : p == 7 ? 9 : p + 1);
        // a run that was is not touched, and the next begins with the same ones
        put(1, 77, 2);
        now(1, 2);
        walk(0, 0);
        now(1, 77);
        now(7, 9);
    }

    private static void walking() {
        says("so many LINES (0 .. 1000) at most: how many it did");
        lines(l(26, 0, 0));
        find(1);
        walk(1000, 1000);
        ran(3, 0);
        walk(999, 999);
        walk(0, 0);
        ran(3, 0);
        walk(1, 1);
        walk(1001, BAD);
        for (int far : FAR) {
            walk(far, BAD);
            due("walk(" + far + ", 1)", x.walk(far, 1), BAD);
        }
        due("walk(1, 1)", x.walk(1, 1), BAD);
        says("END is one; that which STOPS it is none");
        lines(l(20, 0, 1), END, l(20, 0, 2));
        find(1);
        walk(1, 1);
        ran(3, 1);
        walk(2, 2);
        ran(1, 3);
        walk(3, 2);
        ran(1, 3);
        now(0, 1);
        says("that which STOPS it is none");
        lines(l(20, 0, 1), l(10, 0, 1), END);
        find(1);
        walk(1, 1);
        ran(3, 1);
        walk(2, 1);
        ran(2, 1);
        walk(1000, 1);
        ran(2, 1);
        now(0, 1);
        says("BAD; STATE: nothing was found of it, or a number is not OF what is GIVEN");
        lines(l(21, 1, 0));
        walk(1, STATE);
        walk(1001, BAD);
        ran(0, 0);
        find(1);
        walk(1, 1);
        ran(1, 1);
        between(0, 3, 20);
        by(0, 7, 3, 1);
        known(0, 1, 1, 1);
        due("given(0, 7, 0)", x.given(0, 7, 0), 1);
        walk(1, STATE);
        find(1);
        long was = 0, ran = 0;
        for (long v : new long[] {0, 2, 3, 4, 10, 17, 18, 24, -4}) {
            put(7, v, was);
            was = v;
            boolean of = v == 3 || v == 17;
            walk(1, of ? 1 : STATE);
            // a run that is refused is none
            if (of) ran = v;
            now(7, ran);
        }
        ran(1, 1);
        walk(0, STATE);
        for (int place = 0; place < 8; place++) {
            anew();
            lines(l(27, 0, 0));
            give(place, 1, 2);
            find(1);
            walk(1, STATE);
            put(place, 3, 0);
            walk(1, STATE);
            put(place, 2, 3);
            walk(1, 1);
        }
        anew();
        lines(l(27, 0, 0));
        find(1);
        walk(1, 1);
        due("table(0, 0)", x.table(0, 0), 1);
        walk(1, STATE);
        find(1);
        walk(1, 1);
    }

    private static void withoutLines() {
        says("how many LINES there are (of one without)");
        x.method();
        walk(5, STATE);
        find(0);
        put(3, 8, 0);
        walk(0, 0);
        ran(1, 0);
        walk(5, 0);
        ran(1, 0);
        now(3, 8);
        says("The latest run's number in a PLACE, as it is by then; 0 without a run, a PLACE.");
        put(0, 5, 0);
        put(7, 6, 0);
        for (int p = 0; p < 8; p++) now(p, 0);
        lines(l(0, 0, 7), l(0, 0, 7), END);
        find(1);
        now(0, 0);
        long[] by = {5, 11, 17, 17, 17};
        for (int i = 0; i < by.length; i++) {
            walk(i, Math.min(i, 3));
            now(0, by[i]);
            now(7, 6);
        }
        now(8, 0);
        for (int far : FAR) now(far, 0);
        says("0 how it ended (0 none was, 1 over, 2 it STOPPED, 3 it had no LINES left while one was to come)");
        ran(0, 0);
        lines(l(23, 0, 1), l(9, 0, 0), l(20, 2, 1));
        find(1);
        ran(0, 0);
        walk(0, 0);
        ran(3, 0);
        walk(1, 1);
        ran(3, 2);
        walk(2, 2);
        ran(1, 3);
        put(1, 1, 0);
        walk(2, 1);
        ran(2, 1);
        put(0, 9, 0);
        put(1, 8, 1);
        walk(2, 2);
        ran(3, 2);
        now(0, 1);
        walk(3, 3);
        ran(1, 3);
        // another METHOD's run is the latest then
        due("method()", x.method(), 1);
        x.find(1);
        due("walk(1, 3)", x.walk(1, 3), 0);
        ran(1, 0);
        now(2, 0);
        now(0, 9);
        says("or where that was not REACHED; BAD: nowhere. BAD: others.");
        for (int what = 3; what < 9; what++) due("ran(" + what + ")", x.ran(what), BAD);
        for (int far : FAR) due("ran(" + far + ")", x.ran(far), BAD);
        due("ran(2)", x.ran(2), BAD);
    }

    private static void computing() {
        says("0 .. 11: PLACE a = a op b; 12 .. 19: PLACE a = op of PLACE b");
        long a = -0x123456789ABCDEFL;
        for (long b : new long[] {71, 1, -1, MIN}) {
            long[] come = {a + b, a - b, a * b, a & b, a | b, a ^ b, a << b, a >> b, a >>> b, a / b, a % b, (a ^ a >>> 29) * -4658895280553007687L + b,
                -b, ~b, (byte) b, (short) b, (int) b, b & 255, b & 65535, b & 4294967295L};
            for (int op = 0; op < 20; op++) {
                anew();
                lines(l(op, 0, 1));
                put(0, a, 0);
                put(1, b, 0);
                find(1);
                walk(1, 1);
                ran(1, 1);
                now(0, come[op]);
                now(1, b);
            }
        }
        says("20: PLACE a = the int b; 21: PLACE a = PLACE b");
        lines(l(20, 0, Integer.MIN_VALUE), l(20, 7, Integer.MAX_VALUE), l(21, 1, 0), l(21, 2, 2));
        put(2, MAX, 0);
        find(1);
        walk(4, 4);
        now(0, Integer.MIN_VALUE);
        now(1, Integer.MIN_VALUE);
        now(7, Integer.MAX_VALUE);
        now(2, MAX);
    }

    private static Object hidden(Object of, String name) throws ReflectiveOperationException {
        Field field = of.getClass().getDeclaredField(name);
        field.setAccessible(true);
        return field.get(of);
    }

    /** No run is other than was found, if the rules are kept; so what was found is made wrong here from behind. */
    private static void notAsFound() throws ReflectiveOperationException {
        says("8 times the LINE, and the PLACE, where a number was not OF what was found ahead of that LINE (looked at whenever one begins)");
        lines(l(20, 0, 5), l(20, 1, 6), l(20, 2, 7), END);
        find(1);
        Object method = Array.get(hidden(x, "routines"), 0);
        Object found = Array.get(hidden(method, "ahead"), 2 * 8 + 1);
        Field low = found.getClass().getDeclaredField("low"), high = found.getClass().getDeclaredField("high");
        low.setAccessible(true);
        high.setAccessible(true);
        low.set(found, 7L);
        high.set(found, 8L);
        for (int lines = 0; lines < 6; lines++) {
            walk(lines, Math.min(lines, 4));
            // LINE 2 begins as the third
            due("ran(2)", x.ran(2), lines < 3 ? BAD : 17);
        }
        Object other = Array.get(hidden(method, "ahead"), 3 * 8);
        low.set(other, 7L);
        high.set(other, 7L);
        walk(9, 4);
        due("ran(2), the first of two", x.ran(2), 17);
        low.set(found, 6L);
        walk(9, 4);
        due("ran(2)", x.ran(2), 24);
        Array.set(hidden(method, "reached"), 2, false);
        walk(2, 2);
        due("ran(2)", x.ran(2), BAD);
        walk(3, 3);
        due("ran(2), not REACHED", x.ran(2), 16);
        walk(9, 4);
        due("ran(2), not REACHED", x.ran(2), 16);
        find(1);
        walk(9, 4);
        ran(1, 4);
    }

    private static void stops() {
        says("/ and % by 0, a place that a TABLE has not, STOP a run");
        for (int op = 9; op < 11; op++) {
            anew();
            lines(l(op, 0, 1), END);
            find(1);
            put(0, MIN, 0);
            walk(9, 0);
            ran(2, 0);
            now(0, MIN);
            put(1, -1, 0);
            walk(9, 2);
            ran(1, 2);
            now(0, op == 9 ? MIN : 0);
            put(0, -7, MIN);
            put(1, 2, -1);
            walk(9, 2);
            now(0, op == 9 ? -3 : -1);
        }
        says("22: PLACE a = the number in TABLE b at the place that PLACE a tells, from 0 on");
        lines(l(22, 0, 3));
        find(1);
        walk(1, 0);
        ran(2, 0);
        for (int i = 0; i < 16; i++) x.table(3, 100 + i);
        find(1);
        long was = 0;
        for (long v : new long[] {0, 1, 15, 16, -1, 1L << 32, MIN, MAX, -(1L << 32)}) {
            put(0, v, was);
            was = v;
            boolean has = v >= 0 && v < 16;
            walk(1, has ? 1 : 0);
            ran(has ? 1 : 2, has ? 1 : 0);
            now(0, has ? 100 + v : v);
        }
        says("23 SAME, 24 LESS: the next LINE is passed over, if PLACE a is b, is below b");
        long[][] pairs = {{5, 5}, {4, 5}, {5, 4}, {MIN, MAX}, {MAX, MIN}, {-1, 0}, {0, -1}, {MIN, MIN}, {1L << 32, 0}};
        lines(l(23, 0, 1), l(20, 2, 1), l(24, 0, 1), l(20, 3, 1));
        find(1);
        for (int i = 0; i < pairs.length; i++) {
            put(0, pairs[i][0], i == 0 ? 0 : pairs[i - 1][0]);
            put(1, pairs[i][1], i == 0 ? 0 : pairs[i - 1][1]);
            boolean same = pairs[i][0] == pairs[i][1], less = pairs[i][0] < pairs[i][1];
            walk(9, 4 - (same ? 1 : 0) - (less ? 1 : 0));
            now(2, same ? 0 : 1);
            now(3, less ? 0 : 1);
            ran(1, 4);
        }
        says("25 BIT: if bit b (0 .. 63) of PLACE a is 1");
        lines(l(25, 0, 0), l(20, 1, 1), l(25, 0, 31), l(20, 2, 1), l(25, 0, 32), l(20, 3, 1), l(25, 0, 63), l(20, 4, 1));
        find(1);
        long before = 0;
        for (long v : new long[] {1, 1L << 31, 1L << 32, MIN, MAX, -1}) {
            put(0, v, before);
            before = v;
            walk(9, 8 - (int) (v & 1) - (int) (v >> 31 & 1) - (int) (v >> 32 & 1) - (v < 0 ? 1 : 0));
            now(1, v & 1 ^ 1);
            now(2, v >> 31 & 1 ^ 1);
            now(3, v >> 32 & 1 ^ 1);
            now(4, v < 0 ? 0 : 1);
        }
    }

    private static void ends() {
        says("Behind the last LINE (also by 23 to 26) it is over");
        for (int op = 23; op < 27; op++) {
            for (int count = 1; count <= 32; count += 31) {
                anew();
                x.method();
                for (int i = 1; i < count; i++) line(0, 20, 1, 0, i - 1);
                line(0, op, 0, op == 26 ? count : op == 24 ? 2 : op == 23 ? 0 : 1, count - 1);
                put(0, -1, 0);
                find(1);
                walk(count, count);
                ran(1, count);
                walk(count - 1, count - 1);
                ran(3, count - 1);
            }
        }
        says("GO to LINE b (a is 0)");
        lines(l(26, 0, 32), l(20, 0, 1));
        find(1);
        walk(9, 1);
        ran(1, 2);
        now(0, 0);
        says("of 1 how many LINES there are; 0 without a run");
        ran(0, 0);
        lines(END, l(20, 0, 1), l(20, 0, 1));
        find(1);
        walk(1, 1);
        ran(1, 3);
        says("every number is as was found");
        // a place that widens, one that is looked up, one that is cut: each run is as found
        lines(l(20, 0, 0), l(20, 1, 1), l(20, 2, 7), l(24, 0, 2), END, l(21, 3, 0), l(22, 3, 0), l(14, 4, 5), l(0, 0, 1), l(26, 0, 3));
        for (long v : new long[] {MIN, -1, 0, 1, 5, 9, MAX}) x.table(0, v);
        x.find(0);
        put(5, 0x1234567890ABCDEFL, 0);
        walk(1000, 3 + 7 * 6 + 2);
        ran(1, 10);
        now(3, MAX);
        now(4, (byte) 0xEF);
    }

    public static void main(String[] args) throws ReflectiveOperationException {
        putting();
        walking();
        withoutLines();
        computing();
        notAsFound();
        stops();
        ends();
        end();
    }
}

/** Each sentence of '3 METHODS' and of promises 8 to 14 that names a bound, by answers worked out by hand. */
public final class MethodBoundsTest extends Bounds {
    private static final int[] END = {27, 0, 0};

    /** Whether a LINE may be so, by the bounds alone: of op, of a (0 .. 7 or 0), of b. */
    private static boolean fits(int op, int a, int b) {
        int most = op == 22 ? 3 : op == 25 ? 63 : op == 26 ? 32 : op == 27 ? 0 : 7;
        return op >= 0 && op <= 27 && a >= 0 && a <= (op < 26 ? 7 : 0) && (op == 20 || b >= 0 && b <= most);
    }

    private static void building() {
        says("METHODS have up to 32 LINES and 8 PLACES with a number each");
        lines(l(21, 7, 7));
        for (int i = 1; i < 32; i++) line(0, 21, i % 8, 7 - i % 8, i);
        line(0, 21, 0, 0, FULL);
        line(0, 21, 8, 0, BAD);
        line(0, 21, 0, 8, BAD);
        find(1);
        for (int place = 0; place < 8; place++) ahead(31, place, MIN, MAX);
        due("found(0, 32, 0, 0)", x.found(0, 32, 0, 0), BAD);
        due("found(0, 31, 8, 0)", x.found(0, 31, 8, 0), BAD);
        says("A METHOD without LINES, nothing GIVEN: its number. FULL: 6.");
        for (int m = 0; m < 6; m++) {
            due("find(" + m + ")", x.find(m), BAD);
            due("method()", x.method(), m);
            due("find(" + m + ")", x.find(m), 0);
        }
        due("method()", x.method(), FULL);
        due("method()", x.method(), FULL);
        due("find(6)", x.find(6), BAD);
        line(5, 20, 0, 1, 0);
        line(6, 20, 0, 1, BAD);
        says("BAD: METHOD, op, PLACES (0 .. 7), TABLE, bit, LINE (0 .. 32), or what is to be 0, are not as told");
        int[] bs = {Integer.MIN_VALUE, -1, 0, 3, 4, 7, 8, 32, 33, 63, 64, Integer.MAX_VALUE};
        for (int op = -2; op < 30; op++) {
            anew();
            x.method();
            int count = 0;
            for (int a : new int[] {Integer.MIN_VALUE, -1, 0, 1, 7, 8, Integer.MAX_VALUE}) {
                for (int b : bs) {
                    if (fits(op, a, b) && count < 32) line(0, op, a, b, count++);
                    else line(0, op, a, b, fits(op, a, b) ? FULL : BAD);
                }
            }
        }
        says("BAD: METHOD, op (far off)");
        x.method();
        for (int far : FAR) {
            line(far, 27, 0, 0, BAD);
            line(0, far, 0, 0, BAD);
        }
        line(1, 27, 0, 0, BAD);
        line(0, 27, 0, 0, 0);
        says("FULL: 32. (What was found of the METHOD is gone.)");
        lines(END);
        x.method();
        find(1);
        due("find(1)", x.find(1), 0);
        line(0, 27, 0, 0, 1);
        sum(0, STATE);
        due("found(0, 0, 0, 0)", x.found(0, 0, 0, 0), STATE);
        walk(1, STATE);
        due("sum(1, 0)", x.sum(1, 0), 0);
        for (int i = 2; i < 32; i++) line(0, 20, 0, i, i);
        find(1);
        line(0, 20, 0, 1, FULL);
        line(0, 28, 0, 1, BAD);
        sum(0, 1);
        says("12 .. 19: PLACE a = op of PLACE b");
        lines(l(12, 0, 1), l(13, 1, 2), l(14, 2, 3), l(15, 3, 4), l(16, 4, 5), l(17, 5, 6), l(18, 6, 7), l(19, 7, 0), END);
        for (int p = 0; p < 8; p++) give(p, -300L - p, -300L - p);
        find(1);
        long[] come = {301, 301, (byte) -303, -304, -305, -306 & 255, -307 & 65535, 301};
        for (int p = 0; p < 8; p++) ahead(8, p, come[p], come[p]);
        says("0 .. 11: PLACE a = a op b");
        lines(l(1, 0, 1), l(1, 1, 0), END);
        give(0, 10, 10);
        give(1, 3, 3);
        find(1);
        ahead(2, 0, 7, 7);
        ahead(2, 1, -4, -4);
        says("20: PLACE a = the int b");
        lines(l(20, 0, Integer.MIN_VALUE), l(20, 7, Integer.MAX_VALUE), l(20, 1, 0), END);
        find(1);
        ahead(3, 0, Integer.MIN_VALUE, Integer.MIN_VALUE);
        ahead(3, 7, Integer.MAX_VALUE, Integer.MAX_VALUE);
        ahead(3, 1, 0, 0);
        ahead(2, 1, MIN, MAX);
    }

    private static void tablesAndGiven() {
        says("TABLES 0 .. 3 have up to 16 numbers, for all METHODS");
        for (int t : FAR) due("table(" + t + ", 0)", x.table(t, 0), BAD);
        due("table(4, 0)", x.table(4, 0), BAD);
        for (int t = 0; t < 4; t++) {
            for (int i = 1; i <= 16; i++) due("table(" + t + ", .)", x.table(t, i == 16 ? MIN : i), i);
            due("table(" + t + ", 0)", x.table(t, 0), FULL);
        }
        due("table(4, 0)", x.table(4, 0), BAD);
        lines(l(22, 0, 0), END);
        x.method();
        line(1, 22, 0, 3, 0);
        line(1, 27, 0, 0, 1);
        between(0, 15, 99);
        x.given(0, 0, 0);
        x.given(1, 0, 0);
        find(1);
        ahead(1, 0, MIN, MIN);
        due("find(1)", x.find(1), 1);
        due("found(1, 1, 0, 1)", x.found(1, 1, 0, 1), 1);
        isNumber(1, MIN);
        says("A number more in a TABLE: how many it has. BAD; FULL: 16. (What was found of all METHODS is gone.)");
        for (int m = 0; m < 6; m++) x.method();
        for (int m = 0; m < 6; m++) due("find(" + m + ")", x.find(m), 0);
        due("table(0, 5)", x.table(0, 5), 1);
        for (int m = 0; m < 6; m++) {
            due("sum(" + m + ", 0)", x.sum(m, 0), STATE);
            due("walk(" + m + ", 0)", x.walk(m, 0), STATE);
            due("find(" + m + ")", x.find(m), 0);
        }
        for (int i = 2; i <= 16; i++) x.table(0, 5);
        for (int m = 0; m < 6; m++) x.find(m);
        due("table(0, 5)", x.table(0, 5), FULL);
        due("table(-1, 5)", x.table(-1, 5), BAD);
        for (int m = 0; m < 6; m++) due("sum(" + m + ", 0)", x.sum(m, 0), 0);
        says("What is GIVEN of a PLACE at a METHOD's beginning is FACT f, as it is: 1. BAD; STATE: it is NONE. (What was found of the METHOD is gone.)");
        lines(END);
        unfinished(0);
        nothing(1);
        x.method();
        find(1);
        x.find(1);
        for (int far : FAR) {
            due("given(" + far + ", 0, 0)", x.given(far, 0, 0), BAD);
            due("given(0, " + far + ", 0)", x.given(0, far, 0), BAD);
            due("given(0, 0, " + far + ")", x.given(0, 0, far), BAD);
        }
        due("given(2, 0, 0)", x.given(2, 0, 0), BAD);
        due("given(0, 8, 0)", x.given(0, 8, 0), BAD);
        due("given(0, 0, 16)", x.given(0, 0, 16), BAD);
        due("given(0, 0, 1)", x.given(0, 0, 1), STATE);
        sum(0, 1);
        ahead(0, 0, MIN, MAX);
        due("given(0, 7, 0)", x.given(0, 7, 0), 1);
        sum(0, STATE);
        due("sum(1, 0)", x.sum(1, 0), 0);
        // that FACT 0 is another later does not matter
        number(0, 5);
        find(1);
        ahead(0, 7, 121, 9916);
        ahead(0, 0, MIN, MAX);
        due("given(0, 7, 2)", x.given(0, 7, 2), 1);
        find(1);
        ahead(0, 7, MIN, MAX);
    }

    private static void ways() {
        says("Behind the last LINE (also by 23 to 26) it is over");
        for (int op = 23; op < 27; op++) {
            for (int count = 1; count <= 32; count += 31) {
                anew();
                x.method();
                for (int i = 1; i < count; i++) line(0, 20, 0, 0, i - 1);
                line(0, op, 0, op == 26 ? 32 : 1, count - 1);
                find(1);
                sum(0, count);
            }
        }
        says("Behind the last LINE (by 23 to 25 one ahead of it)");
        lines(l(20, 0, 0), l(23, 0, 0), l(27, 0, 0));
        find(1);
        unreached(2);
        says("At first LINE 0 is, with the FACTS that are GIVEN (ALL where none is)");
        lines(END, END);
        give(7, 3, 9);
        find(1);
        ahead(0, 7, 3, 9);
        ahead(0, 6, MIN, MAX);
        unreached(1);
        says("all LINES in order that are REACHED and have changed since they were worked last (or never were) are WORKED");
        // LINE 1 is reached behind its turn
        lines(l(26, 0, 2), END, l(26, 0, 1));
        find(2);
        find(2);
        says("all LINES in order that are REACHED (and have not changed)");
        lines(l(20, 0, 5), l(26, 0, 1));
        find(1);
        ahead(1, 0, 5, 5);
        says("all LINES in order that are REACHED (from one that changed behind its turn)");
        // 0, then 0 and 4: LINE 1 is worked twice
        lines(l(20, 0, 0), l(25, 1, 0), l(27, 0, 0), l(20, 0, 4), l(26, 0, 1));
        find(2);
        ahead(1, 0, 0, 4);
        ahead(2, 0, 0, 4);
        says("where a PLACE's FACT comes to be NONE there, nothing goes");
        lines(l(20, 0, 1), l(20, 1, 0), l(9, 0, 1), END);
        find(1);
        unreached(3);
        sum(0, 3);
        says("where a PLACE's FACT comes to be NONE there, nothing goes (but to the other LINE)");
        lines(l(25, 0, 0), END, END);
        give(0, 4, 4);
        find(1);
        ahead(1, 0, 4, 4);
        unreached(2);
        give(0, 5, 5);
        find(1);
        unreached(1);
        ahead(2, 0, 5, 5);
        says("A LINE that was not REACHED has these then; else each PLACE's FACT becomes the JOIN of what it was and that");
        lines(l(25, 1, 0), l(20, 2, 7), END);
        unfinished(0);
        x.given(0, 0, 0);
        give(2, 5, 5);
        find(1);
        ahead(1, 0, 121, 9916);
        ahead(2, 0, 211, 9856);
        ahead(2, 2, 5, 7);
        says("Where the JOIN, or the FACT by this, comes to be NONE, it stays what it was");
        // no sixteen in 17 .. 255 is 1 by 15, which six times do not show, twelve do
        lines(l(25, 1, 0), l(20, 2, 7), END);
        between(0, 17, 255);
        known(0, 15, 0, 1);
        by(0, 15, 1, 1);
        isBetween(0, 121, 151, 15, 1);
        act(20, 0, 0, 1, 0);
        x.given(0, 0, 0);
        give(2, 5, 5);
        find(1);
        ahead(2, 0, 121, 151);
        ahead(2, 2, 5, 7);
        sum(3, 0);
        says("or the FACT by this, comes to be NONE");
        fourJoins(3520, 3147);
        // three JOINS make it so; by the fourth, 2454 .. 2769, LOW is the least with these bits, 2048: then none is left
        ahead(13, 0, 2517, 2769);
        says("or the FACT by this, comes to be NONE (and one more of 64: it does not)");
        fourJoins(3584, 3210);
        ahead(13, 0, 2391, 2454);
        sum(3, 1);
        says("(a JOIN that is NONE does not count as lesser, greater)");
        // ahead of 3 the same again three times, by a count in PLACE 1; then LOW gets lesser for the first time
        lines(l(20, 1, 0), l(20, 2, 3), l(20, 3, 1), l(24, 1, 2), l(26, 0, 7), l(0, 1, 3), l(26, 0, 3), l(20, 0, 16), l(26, 0, 3));
        between(0, 17, 255);
        known(0, 15, 0, 1);
        by(0, 15, 1, 1);
        x.given(0, 0, 0);
        x.find(0);
        ahead(3, 1, 0, 3);
        ahead(3, 0, 16, 16);
        sum(3, 0);
        says("Changed is what has another LOW, HIGH, KNOWN bits, M or REST (not what stays what it was)");
        lines(l(26, 0, 0));
        between(0, 17, 255);
        known(0, 15, 0, 1);
        by(0, 15, 1, 1);
        x.given(0, 0, 0);
        find(1);
        ahead(0, 0, 121, 151);
        says("Changed is what has another LOW, HIGH, KNOWN bits, M or REST (KNOWN bits alone)");
        // PLACE 2 ahead of LINE 1: 0, 2 or 4; then also 1 .. 3, and LINE 1 has to be worked again
        lines(l(21, 2, 0), l(21, 3, 2), l(25, 7, 0), END, l(21, 2, 1), l(26, 0, 1));
        between(0, 0, 4);
        known(0, 1, 0, 1);
        x.given(0, 0, 0);
        give(1, 1, 3);
        find(2);
        ahead(3, 3, 0, 4);
        due("KNOWN of PLACE 3", x.told(14, 2), ~7L);
        says("Changed is what has another LOW, HIGH, KNOWN bits, M or REST (M alone)");
        lines(l(21, 2, 0), l(21, 3, 2), l(25, 7, 0), END, l(21, 2, 1), l(26, 0, 1));
        between(0, 0, 12);
        by(0, 3, 0, 1);
        x.given(0, 0, 0);
        give(1, 1, 11);
        find(2);
        ahead(3, 3, 0, 12);
        due("M of PLACE 3", x.told(14, 4), 1);
        says("Changed is what has another LOW, HIGH (by SHARPENING alone)");
        lines(l(26, 0, 0));
        unfinished(0);
        x.given(0, 0, 0);
        find(3);
        ahead(0, 0, 256, 9856);
    }

    /**
     * Ahead of LINE 13 five FACTS come to be JOINED, of multiples of 64 that are 60 by 63, which there are none of in
     * 1 .. 3839; six times of SHARPENING make each end come closer by some 6 * 63, and each next LOW is 63 less. (These
     * numbers alone were worked out by a small script, not by hand.)
     */
    private static void fourJoins(long end, long high) {
        lines(l(25, 7, 0), l(26, 0, 13), l(21, 0, 2), l(25, 7, 1), l(26, 0, 13), l(21, 0, 3), l(25, 7, 2), l(26, 0, 13), l(21, 0, 4),
            l(25, 7, 3), l(26, 0, 13), l(21, 0, 5), l(26, 0, 13), END);
        long[] starts = {2432, 1857, 1793, 1729, 1665}, lows = {2769, 2265, 2202, 2139, 2076};
        for (int i = 0; i < 5; i++) {
            between(i, starts[i], end);
            known(i, 63, 0, 1);
            by(i, 63, 60, 1);
            isBetween(i, lows[i], high, 63, 60);
            due("given", x.given(0, i == 0 ? 0 : i + 1, i), 1);
        }
        find(1);
    }

    /** Counts by 1 in PLACE 0, from 'from' on, upward or downward until the bound. */
    private static void count(int from, int step, int bound) {
        lines(l(20, 0, from), l(20, 1, 1), l(20, 2, bound), step > 0 ? l(24, 0, 2) : l(24, 2, 0), END, l(step > 0 ? 0 : 1, 0, 1), l(26, 0, 3));
    }

    private static void widening() {
        says("If by a JOIN LOW gets lesser for the 4th time at this PLACE and LINE, or a later one, it is the least long, and the FACT is SHARPENED again");
        count(-1, -1, -4);
        for (int time = 0; time < 2; time++) {
            find(4);
            ahead(3, 0, -4, -1);
            ahead(4, 0, -4, -4);
            sum(3, 0);
        }
        says("LOW gets lesser for the 4th time");
        count(-1, -1, -5);
        // the least long with the bits of -8 .. -1
        find(5);
        ahead(3, 0, -8, -1);
        ahead(4, 0, -8, -5);
        sum(3, 1);
        says("HIGH, when it gets greater, likewise the greatest");
        count(0, 1, 3);
        for (int time = 0; time < 2; time++) {
            find(4);
            ahead(3, 0, 0, 3);
            ahead(4, 0, 3, 3);
            sum(3, 0);
        }
        says("HIGH, when it gets greater, likewise the greatest (ahead of LINE 0)");
        lines(l(24, 0, 1), END, l(0, 0, 2), l(26, 0, 0));
        give(0, 0, 0);
        give(1, 3, 3);
        give(2, 1, 1);
        for (int time = 0; time < 2; time++) {
            find(4);
            ahead(0, 0, 0, 3);
            sum(3, 0);
        }
        says("HIGH gets greater for the 4th time");
        count(0, 1, 4);
        find(5);
        ahead(3, 0, 0, 7);
        ahead(4, 0, 4, 7);
        sum(3, 1);
        find(5);
        sum(3, 1);
        says("for the 4th time at this PLACE and LINE (three times each, and LOW and HIGH each for itself)");
        growing(5, new long[] {0, 1, -1, 2, -2, 3, -3});
        find(4);
        ahead(2, 1, 0, 6);
        ahead(4, 0, -3, 3);
        ahead(7, 0, -3, 3);
        sum(3, 0);
        says("(both ahead of the SHARPENING)");
        growing(7, new long[] {0, 1, -1, 2, -2, 3, -3, 4, -4});
        find(5);
        ahead(2, 1, 0, 15);
        ahead(3, 0, 0, 15);
        ahead(4, 0, MIN, MAX);
        ahead(5, 1, 7, 15);
        // 1 ahead of 2, 2 ahead of 3, LOW and HIGH of PLACE 0 ahead of 4, 6 and 7, and PLACE 1 ahead of 4
        sum(3, 10);
    }

    /** PLACE 1 goes on by 1 .. 2 from 0 while it is below the bound; PLACE 0 is what the TABLE has there. */
    private static void growing(int bound, long[] table) {
        lines(l(20, 1, 0), l(20, 3, bound), l(21, 0, 1), l(22, 0, 0), l(24, 1, 3), END, l(0, 1, 2), l(26, 0, 2));
        for (long v : table) x.table(0, v);
        give(2, 1, 2);
    }

    private static void thirty() {
        says("They are over when none is to be worked");
        backward(2);
        find(30);
        ahead(2, 0, 5, 5);
        unreached(1);
        sum(0, 31);
        sum(2, 31);
        says("behind the 30th, if some still are, all LINES are REACHED, with ALL");
        backward(1);
        find(30);
        for (int line = 0; line < 32; line++) ahead(line, 0, MIN, MAX);
        sum(0, 32);
        sum(2, 0);
        find(30);
        sum(0, 32);
        // what waited then does not wait in another METHOD
        due("method()", x.method(), 1);
        line(1, 27, 0, 0, 0);
        for (int i = 1; i < 4; i++) line(1, 20, 0, i, i);
        due("find(1)", x.find(1), 1);
        due("sum(1, 0)", x.sum(1, 0), 1);
        says("behind the 30th (also those that nothing leads to; the sum of 3 is as it was)");
        lines(l(20, 0, 0), l(20, 1, 1), l(0, 0, 1), l(26, 0, 2), END, l(11, 0, 0), l(9, 0, 1));
        find(30);
        ahead(4, 0, MIN, MAX);
        ahead(0, 7, MIN, MAX);
        sum(0, 7);
        sum(1, 2);
        sum(2, 0);
        // greater in each of 30 ROUNDS ahead of 2, of 29 ahead of 3; three times each it stays so
        sum(3, 27 + 26);
    }

    /** LINE 0 goes to the last, and each to the one ahead of it, down to 'last': in ROUND 32 - last. */
    private static void backward(int last) {
        lines(l(26, 0, 31));
        for (int i = 1; i < 32; i++) line(0, i <= last ? 27 : 26, 0, i <= last ? 0 : i - 1, i);
        give(0, 5, 5);
    }

    private static void tablesFound() {
        says("22: the JOIN of all numbers in the TABLE, by their places, whose place is OF the FACT (none: NONE)");
        lines(l(22, 0, 1), END);
        find(1);
        unreached(1);
        for (long v : new long[] {5, 100, 11, 17}) x.table(1, v);
        long[][] places = {{-9, 99, 5, 100}, {0, 0, 5, 5}, {-1, 0, 5, 5}, {1, 1, 100, 100}, {2, 3, 11, 17}, {3, 3, 17, 17}, {3, MAX, 17, 17}};
        for (long[] p : places) {
            give(0, p[0], p[1]);
            find(1);
            ahead(1, 0, p[2], p[3]);
        }
        for (long[] none : new long[][] {{4, 4}, {4, MAX}, {-1, -1}, {MIN, -1}, {1L << 32, 1L << 32}}) {
            give(0, none[0], none[1]);
            find(1);
            unreached(1);
        }
        between(0, -7, 7);
        by(0, 3, 0, 1);
        x.given(0, 0, 0);
        find(1);
        ahead(1, 0, 5, 17);
        due("M of 5 and 17", x.told(14, 4), 3);
    }

    private static void same() {
        says("SAME: passed over: both PLACES have the MEET of a's and b's");
        lines(l(23, 0, 1), END, END);
        give(0, 0, 20);
        give(1, 19, 30);
        find(1);
        ahead(2, 0, 19, 20);
        ahead(2, 1, 19, 20);
        ahead(1, 0, 0, 20);
        ahead(1, 1, 19, 30);
        give(1, 21, 30);
        find(1);
        unreached(2);
        ahead(1, 0, 0, 20);
        says("when the other's is a CONSTANT: that as LOW becomes one more, as HIGH one less (a CONSTANT alike: NONE; another one stays), SHARPENED");
        lines(l(23, 0, 1), END, END);
        long[][] apart = {{0, 20, 0, 1, 20}, {0, 20, 20, 0, 19}, {0, 20, 10, 0, 20}, {0, 20, 21, 0, 20}, {3, 4, 3, 4, 4}, {3, 4, 4, 3, 3},
            {MIN, MAX, MIN, MIN + 1, MAX}, {MIN, MAX, MAX, MIN, MAX - 1}, {7, 7, 6, 7, 7}, {MIN, MIN, MAX, MIN, MIN}};
        for (long[] a : apart) {
            for (int place = 0; place < 2; place++) {
                give(place, a[0], a[1]);
                give(1 - place, a[2], a[2]);
                find(1);
                ahead(1, place, a[3], a[4]);
                ahead(1, 1 - place, a[2], a[2]);
            }
        }
        for (long v : new long[] {0, MIN, MAX}) {
            give(0, v, v);
            give(1, v, v);
            find(1);
            unreached(1);
            ahead(2, 0, v, v);
        }
        between(0, 0, 20);
        by(0, 5, 0, 1);
        x.given(0, 0, 0);
        give(1, 0, 0);
        find(1);
        ahead(1, 0, 5, 20);
        says("(SAME, where a and b are one PLACE)");
        lines(l(23, 0, 0), END, END);
        give(0, 3, 9);
        find(1);
        ahead(1, 0, 3, 9);
        ahead(2, 0, 3, 9);
        give(0, 3, 3);
        find(1);
        unreached(1);
        ahead(2, 0, 3, 3);
    }

    private static void less() {
        says("LESS: passed over: a's HIGH is at most b's less 1, b's LOW at least a's and 1 (NONE if there is no such long, or none is left)");
        lines(l(24, 0, 1), END, END);
        long[][] below = {{0, 20, 10, 15, 0, 14, 10, 15}, {12, 13, 10, 15, 12, 13, 13, 15}, {0, 9, 10, 15, 0, 9, 10, 15}, {14, 20, 10, 15, 14, 14, 15, 15},
            {MIN, MAX, MIN, MAX, MIN, MAX - 1, MIN + 1, MAX}, {MIN, MIN, MIN, MAX, MIN, MIN, MIN + 1, MAX}, {MIN, MAX, MAX, MAX, MIN, MAX - 1, MAX, MAX}};
        for (long[] b : below) {
            give(0, b[0], b[1]);
            give(1, b[2], b[3]);
            find(1);
            ahead(2, 0, b[4], b[5]);
            ahead(2, 1, b[6], b[7]);
        }
        for (long[] none : new long[][] {{15, 20, 10, 15}, {16, 20, 10, 15}, {MIN, MAX, MIN, MIN}, {MAX, MAX, MIN, MAX}, {5, 5, 5, 5}}) {
            give(0, none[0], none[1]);
            give(1, none[2], none[3]);
            find(1);
            unreached(2);
            sum(0, 2);
        }
        says("not: a's LOW at least b's, b's HIGH at most a's; SHARPENED");
        lines(l(24, 0, 1), END, END);
        long[][] above = {{0, 20, 10, 15, 10, 20, 10, 15}, {12, 13, 10, 15, 12, 13, 10, 13}, {0, 10, 10, 15, 10, 10, 10, 10},
            {MIN, MAX, MIN, MAX, MIN, MAX, MIN, MAX}, {MIN, MAX, MAX, MAX, MAX, MAX, MAX, MAX}, {MIN, MIN, MIN, MAX, MIN, MIN, MIN, MIN}};
        for (long[] a : above) {
            give(0, a[0], a[1]);
            give(1, a[2], a[3]);
            find(1);
            ahead(1, 0, a[4], a[5]);
            ahead(1, 1, a[6], a[7]);
        }
        for (long[] none : new long[][] {{0, 9, 10, 15}, {MIN, MAX - 1, MAX, MAX}, {MIN, MIN, MIN + 1, MAX}}) {
            give(0, none[0], none[1]);
            give(1, none[2], none[3]);
            find(1);
            unreached(1);
            sum(0, 2);
        }
        says("a's first, both by what they were");
        lines(l(24, 0, 1), END, END);
        // a's was 121 .. 9916 and becomes 211 .. 9856
        unfinished(0);
        x.given(0, 0, 0);
        give(1, 0, 20000);
        find(1);
        ahead(1, 0, 211, 9856);
        ahead(1, 1, 0, 9916);
        ahead(2, 0, 211, 9856);
        ahead(2, 1, 122, 20000);
        says("Where a and b are one PLACE, a's comes first, b's, by what they were, in place of it");
        lines(l(24, 0, 0), END, END);
        give(0, 3, 9);
        find(1);
        ahead(1, 0, 3, 9);
        ahead(2, 0, 4, 9);
        give(0, MIN, MAX);
        find(1);
        ahead(2, 0, MIN + 1, MAX);
        give(0, 5, 5);
        find(1);
        unreached(2);
        ahead(1, 0, 5, 5);
        // b's is by what it was, not by a's, which was SHARPENED once
        unfinished(0);
        x.given(0, 0, 0);
        find(1);
        ahead(1, 0, 211, 9856);
        ahead(2, 0, 211, 9856);
    }

    private static void bit() {
        says("BIT: the bit is KNOWN so (NONE, if it was otherwise), SHARPENED");
        lines(l(25, 0, 3), l(25, 0, 63), l(25, 0, 0), END);
        give(0, 3, 13);
        find(1);
        ahead(1, 0, 3, 7);
        // by way of LINE 0 and, not below 0, of LINE 1
        ahead(2, 0, 3, 13);
        give(0, 8, 13);
        find(1);
        unreached(1);
        give(0, 16, 23);
        find(1);
        ahead(1, 0, 16, 23);
        ahead(2, 0, 16, 23);
        says("25 BIT: if bit b (0 .. 63) of PLACE a is 1");
        lines(l(25, 0, 63), l(27, 0, 0), l(25, 1, 0), l(27, 0, 0), l(27, 0, 0));
        find(1);
        ahead(1, 0, 0, MAX);
        ahead(2, 0, MIN, -1);
        ahead(3, 1, MIN, MAX - 1);
        ahead(4, 1, MIN + 1, MAX);
        // KNOWN so already: SHARPENED again
        says("BIT: the bit is KNOWN so, SHARPENED (also where it was)");
        lines(l(25, 0, 0), END, END);
        unfinished(0);
        x.given(0, 0, 0);
        find(1);
        ahead(1, 0, 211, 9856);
        unreached(2);
    }

    private static void answers() {
        says("All is FOUND: how many ROUNDS it took (0 of one without LINES). BAD.");
        for (int far : FAR) due("find(" + far + ")", x.find(far), BAD);
        x.method();
        find(0);
        sum(0, 0);
        sum(3, 0);
        due("find(1)", x.find(1), BAD);
        line(0, 27, 0, 0, 0);
        find(1);
        says("FACT f becomes what was found of a PLACE ahead of a LINE: 1; 0: that is not REACHED (NONE). BAD: also there is no such LINE; STATE: nothing was found.");
        lines(END, END);
        number(3, 3);
        int[][] bad = {{1, 0, 0, 3}, {0, 2, 0, 3}, {0, 32, 0, 3}, {0, 0, 8, 3}, {0, 0, 0, 16}};
        for (int time = 0; time < 2; time++) {
            for (int[] b : bad) due("found", x.found(b[0], b[1], b[2], b[3]), BAD);
            for (int far : FAR) {
                due("found(" + far + ", 0, 0, 3)", x.found(far, 0, 0, 3), BAD);
                due("found(0, " + far + ", 0, 3)", x.found(0, far, 0, 3), BAD);
                due("found(0, 0, " + far + ", 3)", x.found(0, 0, far, 3), BAD);
                due("found(0, 0, 0, " + far + ")", x.found(0, 0, 0, far), BAD);
            }
            if (time == 0) due("found(0, 1, 7, 3)", x.found(0, 1, 7, 3), STATE);
            isNumber(3, 3);
            find(1);
        }
        due("found(0, 0, 7, 3)", x.found(0, 0, 7, 3), 1);
        isAll(3);
        due("found(0, 1, 7, 3)", x.found(0, 1, 7, 3), 0);
        isNone(3);
        x.method();
        x.find(1);
        due("found(1, 0, 0, 3), of a METHOD without LINES", x.found(1, 0, 0, 3), BAD);
        says("0 how many LINES are REACHED");
        lines(l(26, 0, 2), END, l(23, 0, 0), END, END);
        find(1);
        sum(0, 4);
        give(0, 1, 1);
        find(1);
        sum(0, 3);
        says("2 FACTS of REACHED LINES (8 each) that are CONSTANTS, 3 how often LOW or HIGH was made the least, greatest. BAD; STATE.");
        lines(END, l(20, 0, 0));
        for (int what = 0; what < 4; what++) sum(what, STATE);
        sum(4, BAD);
        for (int p = 0; p < 8; p++) give(p, p, p);
        find(1);
        sum(2, 8);
        sum(3, 0);
        sum(4, BAD);
        for (int far : FAR) {
            sum(far, BAD);
            due("sum(" + far + ", 0)", x.sum(far, 0), BAD);
        }
        due("sum(1, 0)", x.sum(1, 0), BAD);
    }

    private static void givenUp() {
        says("1 those that are GIVEN UP");
        // PLACES: 1 is 8 .. 15, 2 0 .. 15, 3 is 0, 4 -1, 5 7, 6 1 .. 2, 0 and 7 ALL
        int[][] lines = {{6, 7, 1, 0}, {6, 7, 2, 1}, {7, 5, 2, 1}, {8, 7, 5, 0}, {9, 7, 3, 1}, {10, 7, 4, 1}, {9, 5, 4, 0}, {9, 7, 5, 0}, {10, 5, 6, 1},
            {11, 5, 4, 0}, {11, 7, 5, 1}, {11, 5, 6, 1}, {2, 7, 7, 0}, {14, 7, 7, 0}, {9, 5, 3, 0}, {10, 7, 3, 1}};
        for (int[] line : lines) {
            anew();
            lines(l(line[0], line[1], line[2]));
            give(1, 8, 15);
            give(2, 0, 15);
            give(3, 0, 0);
            give(4, -1, -1);
            give(5, 7, 7);
            give(6, 1, 2);
            find(1);
            sum(1, line[3]);
        }
        says("1 those that are GIVEN UP (no others than acts are, whatever their b is)");
        lines(l(20, 0, Integer.MAX_VALUE), l(20, 0, Integer.MIN_VALUE), l(22, 1, 3), l(25, 1, 63), l(23, 1, 7), l(21, 1, 7), l(26, 0, 32));
        x.table(3, 1);
        find(1);
        sum(0, 7);
        sum(1, 0);
        says("1 those that are GIVEN UP (of those that are REACHED)");
        lines(l(11, 0, 0), END, l(11, 0, 0));
        find(1);
        sum(1, 1);
        says("(by the FACTS at last)");
        // 20 / 1 at first, then by 1 .. 3
        lines(l(20, 0, 1), l(20, 1, 1), l(20, 2, 3), l(20, 3, 20), l(9, 3, 0), l(24, 0, 2), END, l(0, 0, 1), l(26, 0, 3));
        find(3);
        ahead(4, 0, 1, 3);
        sum(1, 1);
    }

    public static void main(String[] args) {
        building();
        tablesAndGiven();
        ways();
        widening();
        thirty();
        tablesFound();
        same();
        less();
        bit();
        answers();
        givenUp();
        end();
    }
}

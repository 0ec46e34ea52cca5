import java.util.ArrayList;
import java.util.List;

/** The sentence on answers below 0: which of them comes first, and that what is refused changes nothing. */
public final class RefusalsTest extends Bounds {
    /** FACT 0 is 3 .. 9, 1 NONE; METHODS 0 found and full, 1 not found, 2 to 5 without LINES; TABLE 0 full; METHOD 0 ran. */
    private static BitCongruences made() {
        BitCongruences y = new BitCongruences();
        y.fact(0, 3, 9);
        y.fact(1, 1, 0);
        y.fact(2, 0, 100);
        y.rest(2, 7, 3);
        for (int m = 0; m < 6; m++) y.method();
        for (int i = 0; i < 16; i++) y.table(0, i * i);
        y.table(1, 5);
        for (int i = 0; i < 32; i++) y.op(0, new int[] {0, 24, 20, 11, 22}[i % 5], i % 4, i % 3);
        y.op(1, 20, 0, 5);
        y.given(0, 3, 2);
        y.find(0);
        y.find(2);
        y.put(0, 2);
        y.put(3, 10);
        y.walk(0, 20);
        return y;
    }

    /** What can be asked of an object, in some 350 calls. The first ones change nothing. */
    private static List<Long> all(BitCongruences y) {
        List<Long> seen = new ArrayList<>();
        for (int f = 0; f < 16; f++) for (int what = 0; what < 7; what++) seen.add(y.told(f, what));
        for (int m = 0; m < 7; m++) for (int what = 0; what < 4; what++) seen.add((long) y.sum(m, what));
        for (int what = 0; what < 3; what++) seen.add((long) y.ran(what));
        for (int p = 0; p < 8; p++) seen.add(y.now(p));
        for (int line = 1; line < 32; line += 6) {
            for (int p = 0; p < 4; p++) {
                seen.add((long) y.found(0, line, p, 15));
                for (int what = 0; what < 6; what++) seen.add(y.told(15, what));
            }
        }
        for (int p = 0; p < 8; p++) seen.add(y.put(p, 0));
        for (int t = 0; t < 4; t++) seen.add((long) y.table(t, 0));
        for (int m = 0; m < 6; m++) seen.add((long) y.op(m, 20, 0, 0));
        return seen;
    }

    private interface Refused {
        int[] answers(BitCongruences y);
    }

    private static void changesNothing(String calls, int want, Refused refused) {
        BitCongruences y = made();
        int[] answers = refused.answers(y);
        for (int i = 0; i < answers.length; i++) due(calls + ", call " + i, answers[i], want);
        List<Long> got = all(y), due = all(made());
        for (int i = 0; i < due.size(); i++) due("what can be asked behind " + calls + ", " + i, got.get(i), due.get(i));
        anew();
    }

    private static void bad() {
        changesNothing("fact", BAD, y -> new int[] {y.fact(-1, 0, 0), y.fact(16, 0, 0), y.fact(16, 1, 0)});
        changesNothing("bits", BAD, y -> new int[] {y.bits(-1, 1, 1), y.bits(16, 1, 1)});
        changesNothing("rest", BAD, y -> new int[] {y.rest(-1, 3, 1), y.rest(16, 3, 1), y.rest(0, 0, 1), y.rest(0, 2, 1), y.rest(0, -3, 1), y.rest(2, 2147483646, 1)});
        changesNothing("act", BAD, y -> new int[] {y.act(-1, 0, 0, 3), y.act(22, 0, 0, 3), y.act(0, 16, 0, 3), y.act(0, 0, 16, 3), y.act(13, 0, 16, 3), y.act(0, 0, 0, 16),
            y.act(20, -1, 0, 3), y.act(21, 0, -1, 3), y.act(12, 0, 0, -1)});
        changesNothing("op", BAD, y -> new int[] {y.op(6, 27, 0, 0), y.op(-1, 27, 0, 0), y.op(1, 28, 0, 0), y.op(1, -1, 0, 0), y.op(1, 0, 8, 0), y.op(1, 0, 0, 8), y.op(1, 22, 0, 4),
            y.op(1, 25, 0, 64), y.op(1, 26, 1, 0), y.op(1, 26, 0, 33), y.op(1, 27, 1, 0), y.op(1, 27, 0, 1), y.op(2, 27, 0, -1)});
        changesNothing("table", BAD, y -> new int[] {y.table(-1, 0), y.table(4, 0)});
        changesNothing("given", BAD, y -> new int[] {y.given(-1, 0, 0), y.given(6, 0, 0), y.given(0, -1, 0), y.given(0, 8, 0), y.given(0, 0, -1), y.given(0, 0, 16)});
        changesNothing("find", BAD, y -> new int[] {y.find(-1), y.find(6)});
        changesNothing("found", BAD, y -> new int[] {y.found(-1, 0, 0, 0), y.found(6, 0, 0, 0), y.found(0, -1, 0, 0), y.found(0, 32, 0, 0), y.found(2, 0, 0, 0), y.found(0, 0, -1, 0),
            y.found(0, 0, 8, 0), y.found(0, 0, 0, -1), y.found(0, 0, 0, 16)});
        changesNothing("sum", BAD, y -> new int[] {y.sum(-1, 0), y.sum(6, 0), y.sum(0, -1), y.sum(0, 4)});
        changesNothing("walk", BAD, y -> new int[] {y.walk(-1, 1), y.walk(6, 1), y.walk(0, -1), y.walk(0, 1001)});
        changesNothing("ran", BAD, y -> new int[] {y.ran(-1), y.ran(3)});
        changesNothing("put, now, told, isOf", 0, y -> new int[] {(int) y.put(8, 5), (int) y.put(-1, 5), (int) y.now(8), (int) y.told(16, 0), (int) y.told(0, 7), y.isOf(16, 0) ? 1 : 0});
    }

    private static void fullAndState() {
        changesNothing("method", FULL, y -> new int[] {y.method(), y.method()});
        changesNothing("op", FULL, y -> new int[] {y.op(0, 27, 0, 0), y.op(0, 20, 0, 7)});
        changesNothing("table", FULL, y -> new int[] {y.table(0, 7), y.table(0, 7)});
        changesNothing("given", STATE, y -> new int[] {y.given(0, 3, 1), y.given(1, 0, 1)});
        changesNothing("found", STATE, y -> new int[] {y.found(1, 0, 0, 0)});
        changesNothing("sum", STATE, y -> new int[] {y.sum(1, 0), y.sum(1, 3)});
        changesNothing("walk", STATE, y -> new int[] {y.walk(1, 5), y.walk(1, 0)});
        changesNothing("walk, a number not OF what is GIVEN", STATE, y -> {
            y.put(3, 11);
            int[] answers = {y.walk(0, 5), y.walk(0, 0)};
            y.put(3, 10);
            return answers;
        });
    }

    private static void theFirst() {
        x = made();
        line(0, 28, 0, 0, BAD);
        line(0, 27, 0, 1, BAD);
        line(0, 27, 0, 0, FULL);
        due("given(0, 8, 1)", x.given(0, 8, 1), BAD);
        due("given(6, 0, 1)", x.given(6, 0, 1), BAD);
        due("given(0, 7, 1)", x.given(0, 7, 1), STATE);
        due("found(1, 1, 0, 0)", x.found(1, 1, 0, 0), BAD);
        due("found(1, 0, 8, 0)", x.found(1, 0, 8, 0), BAD);
        due("found(1, 0, 0, 16)", x.found(1, 0, 0, 16), BAD);
        due("found(1, 0, 0, 0)", x.found(1, 0, 0, 0), STATE);
        due("sum(1, 4)", x.sum(1, 4), BAD);
        due("sum(1, 0)", x.sum(1, 0), STATE);
        due("walk(1, 1001)", x.walk(1, 1001), BAD);
        due("walk(1, 1000)", x.walk(1, 1000), STATE);
        x.put(3, 11);
        due("walk(0, -1)", x.walk(0, -1), BAD);
        due("walk(0, 1)", x.walk(0, 1), STATE);
    }

    public static void main(String[] args) {
        says("BAD there is no such thing, or a number is not as told; FULL no room is left; the first of these");
        theFirst();
        says("What is refused changes nothing.");
        bad();
        fullAndState();
        end();
    }
}

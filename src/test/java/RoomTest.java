import com.sun.management.ThreadMXBean;
import java.lang.management.ManagementFactory;

/** The dearest calls make nothing anew: all they need stands since the object, or the METHOD, was made. */
public final class RoomTest {
    private static BitCongruences full() {
        BitCongruences x = new BitCongruences();
        for (int m = 0; m < 6; m++) {
            x.method();
            x.op(m, 20, 0, 0);
            x.op(m, 20, 1, 3);
            for (int i = 0; i < 29; i++) x.op(m, new int[] {0, 2, 8, 24, 10, 5, 12}[i % 7], 2 + i % 6, i % 5);
            x.op(m, 26, 0, 2);
        }
        return x;
    }

    private static void call(BitCongruences x, int i) {
        int m = i % 6;
        x.find(m);
        x.walk(m, 1000);
        x.found(m, i % 32, i % 8, i % 16);
        x.act(i % 22, i % 16, (i + 5) % 16, (i + 1) % 16);
        x.bits(i % 16, 1L << i % 64, i);
        x.rest(i % 16, 2 * i + 1, i);
    }

    public static void main(String[] args) {
        ThreadMXBean bean = (ThreadMXBean) ManagementFactory.getThreadMXBean();
        long me = Thread.currentThread().getId();
        BitCongruences warm = full();
        for (int i = 0; i < 500; i++) call(warm, i);
        bean.getThreadAllocatedBytes(me);
        long start = bean.getThreadAllocatedBytes(me);
        BitCongruences x = full();
        long made = bean.getThreadAllocatedBytes(me);
        for (int i = 0; i < 500; i++) call(x, i);
        long end = bean.getThreadAllocatedBytes(me);
        System.out.println("an object with all its METHODS took " + (made - start) + " bytes, 3000 calls " + (end - made) + " more");
        if (made - start > 400_000 || end - made > 20_000) {
            System.out.println("that is too much");
            System.exit(1);
        }
    }
}

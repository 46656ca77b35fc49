import com.sun.management.ThreadMXBean;
import java.lang.management.ManagementFactory;

/** 512 calls on one object, the dearest ones among them, make next to nothing. */
public final class RoomTest {
    private static final long BYTES = 100_000;
    private static final int CALLS = 512;

    private static ShopsAsOne fullStreet() {
        ShopsAsOne x = new ShopsAsOne();
        for (int i = 0; i < 6; i++) {
            x.owner(i % 2 == 0 ? 0 : 3, i);
        }
        for (int i = 0; i < 6; i++) {
            x.shop(i, i + 2, i % 3, 9 - i);
        }
        for (int i = 0; i < 8; i++) {
            x.sort(i, 10 + i, 1, 20, i % 6, 2);
        }
        for (int i = 0; i < 4; i++) {
            x.letters(0x3530303c73213c73L >>> 24);
            x.test();
        }
        return x;
    }

    private static long run(ShopsAsOne x) {
        long sum = 0;
        for (int i = 30; i < CALLS; i++) {
            int a = i % 6;
            int b = (i + 1) % 6;
            int c = (i + 3) % 6;
            int d = (i + 4) % 6;
            switch (i % 9) {
                case 0 -> sum += x.soldOff(a, b, c, 0);
                case 1 -> sum += x.twice(a, b, c, d, 2);
                case 2 -> sum += x.wrong(0, i & 1);
                case 3 -> sum += x.digest();
                case 4 -> sum += x.harm(a, b, 0);
                case 5 -> sum += x.market(a, 1 + i % 5, true);
                case 6 -> sum += x.rest() + x.image() + x.restore();
                case 7 -> sum += x.turn(a) + x.otherwise();
                default -> sum += x.fault() + x.bars(0, a, b) + x.letters(40) + x.merge(a, b);
            }
        }
        return sum;
    }

    public static void main(String[] args) {
        ThreadMXBean threads = (ThreadMXBean) ManagementFactory.getThreadMXBean();
        long sum = run(fullStreet());
        long before = threads.getThreadAllocatedBytes(Thread.currentThread().getId());
        sum += run(fullStreet());
        long made = threads.getThreadAllocatedBytes(Thread.currentThread().getId()) - before;
        System.out.println(made + " bytes made by a run (" + sum + ")");
        if (made < 0 || made > BYTES) {
            System.out.println("that is above " + BYTES);
            System.exit(1);
        }
    }
}

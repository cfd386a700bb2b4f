import java.lang.management.ManagementFactory;

/** The one room of a run: a yard that stands makes no objects, however dear the calls are. */
public final class RoomTest {
    public static void main(String[] args) {
        com.sun.management.ThreadMXBean meter = (com.sun.management.ThreadMXBean) ManagementFactory.getThreadMXBean();
        Panyard x = full();
        long sum = x.digest() + meter.getCurrentThreadAllocatedBytes();
        long before = meter.getCurrentThreadAllocatedBytes();
        for (int i = 0; i < 100; i++) {
            sum += x.digest() + x.wouldTotal(60) + x.rehearse(10 + i / 100) + x.pass(1, 9, 9) + x.tuner(0, 10);
            sum += x.burn(0);
        }
        long used = meter.getCurrentThreadAllocatedBytes() - before;
        Check.due("under a page of memory for 600 calls: " + used + " (" + sum + ")", used < 4096, true);
        Check.finish();
    }

    private static Panyard full() {
        Panyard x = new Panyard();
        for (int i = 0; i < 6; i++) {
            x.pan(3);
        }
        for (int i = 0; i < 8; i++) {
            x.phrase(3, 9, 255);
            x.player(3, 9, 8);
            x.give(i, i % 6);
        }
        for (int i = 0; i < 5; i++) {
            x.put(i);
        }
        x.cover(true);
        return x;
    }
}

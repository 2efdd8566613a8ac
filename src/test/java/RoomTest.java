import java.lang.management.ManagementFactory;

/** What 512 of the dearest calls make, in bytes: rows are made by the constructor and used again. */
public final class RoomTest {
    public static void main(String[] args) {
        com.sun.management.ThreadMXBean threads = (com.sun.management.ThreadMXBean) ManagementFactory.getThreadMXBean();
        round();
        long before = threads.getCurrentThreadAllocatedBytes();
        round();
        long made = threads.getCurrentThreadAllocatedBytes() - before;
        Check.due("bytes made by one object and 512 calls, " + made + ", but at most 200000", Math.max(200000, made), 200000);
        Check.end("RoomTest");
    }

    private static void round() {
        HotSteps x = new HotSteps();
        for (int i = 0; i < 64; i++) {
            x.feed('w' << 24 | 'a' << 16 | 's' << 8 | 'h', ';' << 24, 0, 0, 0);
            x.play();
            x.report();
            x.save(i % 2);
            x.waits(60);
            x.undo();
            x.downIn(0);
            x.enter(i % 5);
        }
    }
}

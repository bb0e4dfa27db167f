import java.lang.management.ManagementFactory;

/** What runs of the dearest calls make stays far below the room of a run (7.3 million fields and elements). */
public final class RoomTest {
    private static final com.sun.management.ThreadMXBean THREADS =
            (com.sun.management.ThreadMXBean) ManagementFactory.getThreadMXBean();

    private static long made() {
        return THREADS.getThreadAllocatedBytes(Thread.currentThread().getId());
    }

    private static long sum;

    /** Every table is asked for anew after each change, in the greatest frame. */
    private static void changingRun() {
        PaintFrames x = new PaintFrames();
        x.places(6);
        x.generator(234561, 0);
        x.generator(654321, 1);
        for (int i = 0; i < 100; i++) {
            sum += x.kinds(1 + i % 4);
            sum += x.kindOf(0, i, 0) + x.kindOf(1, i, 3) + x.heavy(0, i) + x.fits(0) + x.after();
        }
        x.image();
        sum += x.undo();
    }

    /** Many objects in one run. */
    private static void renewingRun() {
        for (int i = 0; i < 128; i++) {
            PaintFrames x = new PaintFrames();
            x.places(6);
            x.kinds(4);
            sum += x.kindOf(0, 4095, 0) + x.kindOf(1, 4095, 0);
        }
    }

    public static void main(String[] args) {
        Check check = new Check("RoomTest");
        changingRun();
        renewingRun();
        long before = made();
        changingRun();
        long changing = made() - before;
        check.holds("a run of changes makes " + changing + " bytes, at most 200000", changing <= 200_000);
        before = made();
        renewingRun();
        long renewing = made() - before;
        check.holds("a run of new objects makes " + renewing + " bytes, at most 8000000", renewing <= 8_000_000);
        System.out.println("RoomTest: " + changing + " and " + renewing + " bytes");
        check.end();
    }
}

import com.sun.management.ThreadMXBean;
import java.lang.management.ManagementFactory;

/** What the dearest runs of calls make stays far below the room that one run has. */
public final class RoomTest {
    private static final long BYTES = 12L * 1024 * 1024;

    private static int wrong = 0;
    private static long sum = 0;

    public static void main(String[] args) {
        ThreadMXBean bean = (ThreadMXBean) ManagementFactory.getThreadMXBean();
        measured(bean, "512 new objects", 0);
        measured(bean, "512 calls on full cards", 1);
        System.out.println(wrong == 0 ? "the room is as due" : "too much room is taken (" + sum + ")");
        if (wrong != 0) System.exit(1);
    }

    private static void measured(ThreadMXBean bean, String what, int run) {
        long before = bean.getCurrentThreadAllocatedBytes();
        if (run == 0) manyObjects();
        else fullCards();
        long made = bean.getCurrentThreadAllocatedBytes() - before;
        System.out.println(what + ": " + made + " bytes");
        if (made > BYTES) wrong++;
    }

    private static void manyObjects() {
        for (int i = 0; i < 512; i++) sum += new WheelHours().may(0, false);
    }

    /** As many marks as there can be, and a law that takes and extends without end. */
    private static void fullCards() {
        WheelHours x = new WheelHours();
        x.feed(0x7839393B, 0x7939393B, 0x71313B72, 0x323B6431, 0x30303B65);
        x.feed(0x31313000, 0, 0, 0, 0);
        sum += x.law(23);
        for (int i = 0; i < 60; i++) x.act(0, i % 2 == 0 ? 0 : 2, i % 2 == 0 ? 300 : i < 36 ? 2 : 1, 0);
        for (int i = 0; i < 224; i++) {
            x.put(0, i % 60, i % 3, 0);
            sum += x.day(0, i % 2 == 0, i % 9, 1) + x.breaches(0, i % 2 == 1);
        }
    }
}

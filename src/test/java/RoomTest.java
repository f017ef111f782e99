import com.sun.management.ThreadMXBean;
import java.lang.management.ManagementFactory;

/** The dearest calls make no objects but their exceptions, so all calls of a run fit into its room. */
final class RoomTest {
    private static final int CALLS = 480;

    public static void main(String[] args) {
        // The first calls of all load classes, which is not counted.
        spend(new Bench());
        long before = allocated();
        Bench x = new Bench();
        long object = allocated() - before;
        Due.same("an object takes less than 100000 bytes: " + object, object < 100_000, true);
        before = allocated();
        spend(x);
        long calls = allocated() - before;
        Due.same("the calls take less than 100 bytes each: " + calls, calls < 100 * CALLS, true);
        Due.finish("RoomTest");
    }

    private static void spend(Bench x) {
        TruthBench bench = x.bench;
        x.clear(1, 1);
        x.text(1, "0123456789012345678901234567890123456789");
        x.read("b in (" + "substr(b,1,20)||upper(substr(b,1,20)),".repeat(7) + "'x') or b like '%0%1%2%3%4%5%6%7%8%9%_'");
        for (int k = 0; k < CALLS / 5; k++) {
            bench.kind();
            bench.work();
            bench.work();
            bench.value(5);
            bench.keep(2);
        }
    }

    private static long allocated() {
        ThreadMXBean bean = (ThreadMXBean) ManagementFactory.getThreadMXBean();
        return bean.getThreadAllocatedBytes(Thread.currentThread().getId());
    }
}

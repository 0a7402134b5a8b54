import java.lang.management.ManagementFactory;

/** What calls make is never given back where the class runs: rows are made once and used again. */
public final class RoomTest {
    private static final String LARGE = "disks 6 stripes 64 base 3 seek 9; rebuild 20 10 0 window 8 cache 9;"
            + "tenant 10 50 0; tenant 200 25 500; tenant 0 9 0; tenant 0 9 0; tenant 0 9 0; slack 5;";
    private static final com.sun.management.ThreadMXBean THREADS =
            (com.sun.management.ThreadMXBean) ManagementFactory.getThreadMXBean();

    public static void main(String[] args) {
        RebuildScheduler warm = busy();
        warm.forecast();
        madeBy("nothing", 20_000, () -> { });
        madeBy("a new object", 20_000, () -> new RebuildScheduler());
        RebuildScheduler x = busy();
        madeBy("the first forecast", 300_000, () -> x.forecast());
        madeBy("200 forecasts more", 20_000, () -> {
            for (int i = 0; i < 200; i++) {
                x.forecast();
            }
        });
        madeBy("200 advances", 20_000, () -> {
            for (int i = 0; i < 200; i++) {
                x.advance(5);
            }
        });
        madeBy("an array again", 20_000, () -> x.loadArray(Check.feed(x, LARGE)));
        madeBy("a first trace", 30_000, () -> Check.trace(x, "at 9 1 reads 0;"));
        madeBy("50 traces", 50 * 2_000, () -> {
            for (int i = 0; i < 50; i++) {
                Check.trace(x, "at 9 1 reads 0;");
            }
        });
        Check.end();
    }

    private static RebuildScheduler busy() {
        RebuildScheduler x = Check.loaded(LARGE);
        for (int i = 0; i < 390; i++) {
            x.submit(1 + i % 5, i * 7 % 320, i % 3 == 0, i % 4 == 0 ? i : -1);
        }
        Check.trace(x, "at 5 1 reads 0; at 6 2 writes 5; at 9 3 reads 1 by 19;");
        x.fail(3);
        return x;
    }

    private static void madeBy(String what, long most, Check.Call call) {
        long before = THREADS.getThreadAllocatedBytes(Thread.currentThread().getId());
        call.make();
        long made = THREADS.getThreadAllocatedBytes(Thread.currentThread().getId()) - before;
        if (made > most) {
            Check.fail(what + " made " + made + " bytes, at most " + most + " are due");
        }
    }
}

/** Promises 29 to 37: the requests and what is counted of them. */
public final class RequestsTest {
    // the units 0 to 7 are on the disks 1 2, 2 0, 0 1, 1 2; the parity disks are 0 1 2 0
    private static final String SMALL = "disks 3 stripes 4 base 4 seek 0; rebuild 0 1 0 window 1 cache 2;"
            + "tenant 0 50 0; tenant 0 50 0;";

    public static void main(String[] args) {
        counts();
        linesAreLost();
        linesToCome();
        requestsEnd();
        statistics();
        lateOnes();
        endsAtOnce();
        refuse();
        Check.end();
    }

    private static void counts() {
        RebuildScheduler x = Check.loaded(SMALL);
        Check.is("requestCount", x.requestCount(), 0);
        x.submit(1, 0, false, -1);
        Check.trace(x, "at 3 1 reads 0; at 3 2 writes 0;");
        Check.is("requestCount", x.requestCount(), 1);
        x.advance(3);
        Check.is("requestCount", x.requestCount(), 3);
        x.advance(100);
        Check.is("finished ones count", x.requestCount(), 3);
    }

    private static void linesAreLost() {
        RebuildScheduler x = Check.loaded(SMALL);
        for (int i = 0; i < 398; i++) {
            x.submit(1, 0, false, -1);
        }
        Check.trace(x, "at 5 1 reads 0; at 6 1 reads 0; at 6 1 reads 0; at 6 2 reads 0; at 9 2 reads 0;");
        Check.is("lostLines", x.lostLines(), 0);
        x.advance(6);
        Check.is("two lines were lost", x.lostLines(), 2);
        Check.is("requestCount", x.requestCount(), 400);
        Check.is("a lost line does not come any more", x.traceLines(), 1);
        x.advance(3);
        Check.is("three lines were lost", x.lostLines(), 3);
        Check.trace(x, "");
        Check.is("a new trace does not change it", x.lostLines(), 3);
        Check.is("finished ones count too", x.finished(1) > 0, true);
        x.loadArray(Check.feed(x, SMALL));
        Check.is("a new array does", x.lostLines(), 0);
    }

    private static void linesToCome() {
        RebuildScheduler x = Check.loaded(SMALL);
        Check.is("traceLines", x.traceLines(), 0);
        Check.trace(x, "at 5 1 reads 0; at 6 1 reads 0; at 6 1 reads 0;");
        Check.is("traceLines", x.traceLines(), 3);
        x.advance(4);
        Check.is("traceLines", x.traceLines(), 3);
        x.advance(1);
        Check.is("traceLines", x.traceLines(), 2);
        x.advance(1);
        Check.is("traceLines", x.traceLines(), 0);
    }

    private static void requestsEnd() {
        RebuildScheduler x = Check.loaded(SMALL);
        x.submit(1, 0, true, -1);
        x.submit(1, 0, false, -1);
        x.submit(1, 3, false, -1);
        Check.is("finishedAt", x.finishedAt(0), -1);
        Check.is("pending", x.pending(0), 2);
        x.advance(5);
        Check.is("both writes", x.finishedAt(0), 5);
        Check.is("pending", x.pending(0), 0);
        Check.is("finishedAt", x.finishedAt(1), -1);
        Check.is("pending", x.pending(1), 1);
        x.advance(4);
        Check.is("finishedAt", x.finishedAt(1), 9);
        Check.is("finishedAt", x.finishedAt(2), 9);
        x.submit(2, 0, false, -1);
        x.submit(1, 1, true, -1);
        x.submit(2, 7, false, 20);
        x.advance(5);
        Check.is("the write of disk 0 is finished, that of disk 2 is not", x.pending(4), 1);
        Check.is("finishedAt", x.finishedAt(4), -1);
        x.advance(4);
        Check.is("finishedAt", x.finishedAt(4), 18);
    }

    private static void statistics() {
        RebuildScheduler x = Check.loaded(SMALL);
        Check.is("finished", x.finished(1), 0);
        Check.is("totalLatency", x.totalLatency(1), 0);
        Check.is("worstLatency", x.worstLatency(1), -1);
        Check.is("late", x.late(1), 0);
        x.advance(10);
        x.submit(1, 0, false, -1);
        x.submit(1, 0, false, -1);
        x.submit(2, 3, false, -1);
        x.advance(5);
        Check.is("finished", x.finished(1), 1);
        Check.is("totalLatency", x.totalLatency(1), 5);
        Check.is("worstLatency", x.worstLatency(1), 5);
        x.advance(4);
        Check.is("finished", x.finished(1), 2);
        Check.is("totalLatency", x.totalLatency(1), 14);
        Check.is("worstLatency", x.worstLatency(1), 9);
        x.submit(1, 0, false, -1);
        x.advance(9);
        Check.is("totalLatency", x.totalLatency(1), 19);
        Check.is("worstLatency", x.worstLatency(1), 9);
        Check.is("finished", x.finished(2), 1);
        Check.is("totalLatency", x.totalLatency(2), 5);
        Check.is("worstLatency", x.worstLatency(2), 5);
    }

    private static void lateOnes() {
        RebuildScheduler x = Check.loaded(SMALL);
        x.submit(1, 0, false, 5);
        x.submit(1, 0, false, 8);
        x.submit(1, 0, false, -1);
        x.submit(2, 3, false, 0);
        x.submit(2, 3, false, 9);
        x.advance(4);
        Check.is("not finished yet", x.late(2), 0);
        x.advance(1);
        Check.is("at its deadline it is not late", x.late(1), 0);
        Check.is("it is late", x.late(2), 1);
        x.advance(10);
        Check.is("one tick late, and one without a deadline", x.late(1), 1);
        Check.is("the second was not", x.late(2), 1);
    }

    /** A degraded read of a stripe whose units are all held has no operations. */
    private static void endsAtOnce() {
        RebuildScheduler x = Check.loaded(SMALL);
        x.fail(2);
        x.advance(5);
        Check.is("stripe 0 is being written", x.stripeState(0), 2);
        Check.is("submit", x.submit(1, 1, false, 5), 0);
        Check.is("pending", x.pending(0), 0);
        Check.is("finishedAt", x.finishedAt(0), 5);
        Check.is("finished", x.finished(1), 1);
        Check.is("totalLatency", x.totalLatency(1), 0);
        Check.is("worstLatency", x.worstLatency(1), 0);
        Check.is("late", x.late(1), 0);
        RebuildScheduler cached = Check.loaded(SMALL);
        cached.fail(2);
        cached.submit(1, 3, false, 0);
        cached.advance(5);
        Check.is("disk 0 of stripe 1 is held", cached.isHeld(0, 1), true);
        cached.submit(1, 2, false, -1);
        Check.is("a held unit is not read", cached.pending(1), 1);
        Check.is("disk 0", cached.queueLength(0, 1), 0);
        Check.is("disk 1", cached.queueLength(1, 1), 1);
    }

    private static void refuse() {
        RebuildScheduler x = Check.loaded(SMALL);
        x.submit(1, 0, false, -1);
        for (int wrong : new int[] {-1, 1, 400, Integer.MAX_VALUE, Integer.MIN_VALUE}) {
            Check.noElement("finishedAt", () -> x.finishedAt(wrong));
            Check.noElement("pending", () -> x.pending(wrong));
        }
        for (int wrong : new int[] {-1, 0, 3, Integer.MAX_VALUE, Integer.MIN_VALUE}) {
            Check.noElement("finished", () -> x.finished(wrong));
            Check.noElement("totalLatency", () -> x.totalLatency(wrong));
            Check.noElement("worstLatency", () -> x.worstLatency(wrong));
            Check.noElement("late", () -> x.late(wrong));
        }
    }
}

/** The boundary cases of promises 29 to 37 and of the section REQUESTS, sentence by sentence. */
public final class RequestsEdgesTest {
    // the units 0 to 7 are on the disks 1 2, 2 0, 0 1, 1 2; the parity disks are 0 1 2 0
    private static final String SMALL = "disks 3 stripes 4 base 4 seek 0; rebuild 0 1 0 window 1 cache 2;"
            + "tenant 0 50 0; tenant 0 50 0;";
    private static final int[] FAR = {Integer.MIN_VALUE, -2, -1, 400, 401, 65536, Integer.MAX_VALUE};

    public static void main(String[] args) {
        noRequests();
        requestsUpTo400();
        linesAreLostAt400();
        lostLinesStayLost();
        linesStillToCome();
        noSuchRequest();
        notFinishedYet();
        pendingOperations();
        allOperationsMustBeFinished();
        noSuchTenantFromOneOn();
        noFinishedRequest();
        latencyOfZero();
        greatestLatency();
        latencyFromTheSubmission();
        latencyOfADegradedRead();
        lateAfterItsDeadline();
        lateAtTheLastTick();
        Check.end();
    }

    private static RebuildScheduler withRequests(int requests) {
        RebuildScheduler x = Check.loaded(SMALL);
        for (int i = 0; i < requests; i++) {
            x.submit(1, 0, false, -1);
        }
        return x;
    }

    private static void noRequests() {
        Check.about("Returns the number of requests");
        Check.is("without an array", new RebuildScheduler().requestCount(), 0);
        RebuildScheduler x = Check.loaded(SMALL);
        Check.is("a new array", x.requestCount(), 0);
        x.fail(0);
        x.advance(50);
        Check.is("the rebuild makes none", x.requestCount(), 0);
        Check.noArgument("a refused one", () -> x.submit(1, 0, false, 0));
        Check.is("does not count", x.requestCount(), 0);
    }

    private static void requestsUpTo400() {
        Check.about("There are at most 400 requests");
        RebuildScheduler x = withRequests(399);
        Check.is("requestCount", x.requestCount(), 399);
        x.submit(1, 0, false, -1);
        Check.is("requestCount", x.requestCount(), 400);
        Check.noState("one more", () -> x.submit(1, 0, false, -1));
        Check.is("requestCount", x.requestCount(), 400);
        Check.is("the last one", x.pending(399), 1);
        Check.noElement("one more", () -> x.pending(400));
    }

    private static void linesAreLostAt400() {
        Check.about("a line is lost if there are 400 requests");
        RebuildScheduler x = withRequests(399);
        Check.trace(x, "at 3 1 reads 0; at 3 2 reads 1; at 3 1 reads 0; at 4 1 writes 0;");
        x.advance(2);
        Check.is("none yet", x.lostLines(), 0);
        x.advance(1);
        Check.is("the first line is the 400th request", x.requestCount(), 400);
        Check.is("the two behind it are lost", x.lostLines(), 2);
        Check.is("tenant 2 has none", x.queueLength(2, 2), 0);
        Check.is("one is to come", x.traceLines(), 1);
        x.advance(1);
        Check.is("it is lost", x.lostLines(), 3);
        Check.is("none is to come", x.traceLines(), 0);
        RebuildScheduler full = withRequests(400);
        Check.trace(full, "at 1 1 reads 0;");
        full.advance(2000);
        Check.is("lost in a long advance", full.lostLines(), 1);
        RebuildScheduler room = withRequests(398);
        Check.trace(room, "at 1 1 reads 0; at 2 1 reads 0;");
        room.advance(2);
        Check.is("no line is lost", room.lostLines(), 0);
        Check.is("requestCount", room.requestCount(), 400);
    }

    private static void lostLinesStayLost() {
        Check.about("Returns the number of trace lines that were lost");
        Check.is("without an array", new RebuildScheduler().lostLines(), 0);
        RebuildScheduler x = withRequests(400);
        Check.trace(x, "at 1 1 reads 0; at 9 1 reads 0;");
        x.advance(1);
        Check.trace(x, "at 2 1 reads 0; at 3 1 reads 0;");
        Check.is("a replaced line is not lost", x.lostLines(), 1);
        x.advance(9);
        Check.is("the lost lines of both", x.lostLines(), 3);
        x.loadArray(Check.feed(x, SMALL));
        Check.is("everything begins anew", x.lostLines(), 0);
    }

    private static void linesStillToCome() {
        Check.about("Returns the number of trace lines that are still to come");
        Check.is("without an array", new RebuildScheduler().traceLines(), 0);
        RebuildScheduler x = Check.loaded(SMALL);
        Check.is("no trace", x.traceLines(), 0);
        Check.trace(x, "at 2 1 reads 0; at 2 1 reads 0; at 99999 1 reads 0;");
        Check.is("all", x.traceLines(), 3);
        x.advance(1);
        Check.is("the tick before", x.traceLines(), 3);
        x.advance(1);
        Check.is("their tick", x.traceLines(), 1);
        Check.advanceTo(x, 99998);
        Check.is("the last but one tick", x.traceLines(), 1);
        x.advance(1);
        Check.is("the last tick", x.traceLines(), 0);
        Check.trace(x, "");
        Check.is("an empty trace", x.traceLines(), 0);
        x.loadArray(Check.feed(x, SMALL));
        Check.trace(x, "at 5 1 reads 0;");
        x.loadArray(Check.feed(x, SMALL));
        Check.is("a new array has none", x.traceLines(), 0);
        x.advance(5);
        Check.is("and none comes", x.requestCount(), 0);
    }

    private static void noSuchRequest() {
        Check.about("if there is no such request");
        RebuildScheduler x = Check.loaded(SMALL);
        Check.noElement("request 0 of none", () -> x.finishedAt(0));
        Check.noElement("request 0 of none", () -> x.pending(0));
        x.submit(1, 0, false, -1);
        Check.is("request 0 of one", x.finishedAt(0), -1);
        Check.noElement("request 1 of one", () -> x.finishedAt(1));
        Check.noElement("request 1 of one", () -> x.pending(1));
        for (int far : FAR) {
            Check.noElement("finishedAt " + far, () -> x.finishedAt(far));
            Check.noElement("pending " + far, () -> x.pending(far));
        }
        x.loadArray(Check.feed(x, SMALL));
        Check.noElement("request 0 of an old array", () -> x.finishedAt(0));
        Check.noElement("request 0 of an old array", () -> x.pending(0));
    }

    private static void notFinishedYet() {
        Check.about("the tick at which a request was finished; -1 if it is not finished");
        RebuildScheduler x = Check.loaded(SMALL);
        x.submit(1, 0, false, -1);
        Check.is("queued", x.finishedAt(0), -1);
        x.advance(4);
        Check.is("served", x.finishedAt(0), -1);
        x.advance(1);
        Check.is("finished", x.finishedAt(0), 5);
        x.advance(2000);
        Check.is("for ever", x.finishedAt(0), 5);
        RebuildScheduler last = Check.loaded(SMALL);
        Check.advanceTo(last, 99994);
        last.submit(1, 0, false, -1);
        last.submit(1, 0, false, -1);
        last.advance(5);
        Check.is("at the last tick", last.finishedAt(0), 99999);
        Check.is("never", last.finishedAt(1), -1);
        Check.is("never", last.pending(1), 1);
    }

    private static void pendingOperations() {
        Check.about("Returns the number of operations of a request that are not finished");
        for (int disks = 3; disks <= 6; disks++) {
            RebuildScheduler x = Check.loaded("disks " + disks + " stripes 9 base 4 seek 0;"
                    + "rebuild 0 1 0 window 1 cache 0; tenant 0 50 0;");
            x.submit(1, 0, false, -1);
            Check.is("a read", x.pending(0), 1);
            x.submit(1, 0, true, -1);
            Check.is("a write", x.pending(1), 2);
            x.fail(1);
            Check.is("a read that was made degraded", x.pending(0), disks - 1);
            Check.is("a write that lost its disk", x.pending(1), 1);
            x.submit(1, 0, false, -1);
            Check.is("a degraded read", x.pending(2), disks - 1);
            x.submit(1, 0, true, -1);
            Check.is("a write without its disk", x.pending(3), 1);
            x.advance(2000);
            for (int request = 0; request < 4; request++) {
                Check.is("none is left", x.pending(request), 0);
            }
        }
    }

    private static void allOperationsMustBeFinished() {
        Check.about("A request is finished when all its operations are finished");
        RebuildScheduler x = Check.loaded(SMALL);
        x.submit(1, 3, false, -1);  // disk 0
        x.submit(1, 0, true, -1);   // disks 1 and 0
        x.advance(5);
        Check.is("the write of disk 1 is finished", x.pending(1), 1);
        Check.is("the request is not", x.finishedAt(1), -1);
        Check.is("finished", x.finished(1), 1);
        x.advance(3);
        Check.is("the tick before", x.pending(1), 1);
        x.advance(1);
        Check.is("the write of disk 0 is finished", x.pending(1), 0);
        Check.is("and so is the request", x.finishedAt(1), 9);
        Check.is("finished", x.finished(1), 2);
    }

    private static void noTenant(RebuildScheduler x, int tenant) {
        Check.noElement("finished " + tenant, () -> x.finished(tenant));
        Check.noElement("totalLatency " + tenant, () -> x.totalLatency(tenant));
        Check.noElement("worstLatency " + tenant, () -> x.worstLatency(tenant));
        Check.noElement("late " + tenant, () -> x.late(tenant));
    }

    private static void noSuchTenantFromOneOn() {
        Check.about("if there is no such tenant from 1 on");
        RebuildScheduler x = Check.loaded(SMALL);
        noTenant(x, 0);
        noTenant(x, 3);
        for (int far : FAR) {
            noTenant(x, far);
        }
        Check.is("the last tenant", x.finished(2), 0);
        RebuildScheduler lonely = Check.loaded("disks 3 stripes 1 base 1 seek 0; rebuild 0 1 0 window 1 cache 0;");
        noTenant(lonely, 0);
        noTenant(lonely, 1);
        RebuildScheduler crowded = Check.loaded("disks 3 stripes 1 base 1 seek 0; rebuild 0 1 0 window 1 cache 0;"
                + "tenant 0 1 0;tenant 0 1 0;tenant 0 1 0;tenant 0 1 0;tenant 0 1 0;");
        Check.is("tenant 5", crowded.worstLatency(5), -1);
        noTenant(crowded, 6);
    }

    private static void statistics(RebuildScheduler x, int tenant, String due) {
        Check.is("finished, totalLatency, worstLatency and late of tenant " + tenant,
                x.finished(tenant) + " " + x.totalLatency(tenant) + " " + x.worstLatency(tenant) + " " + x.late(tenant), due);
    }

    private static void noFinishedRequest() {
        Check.about("the greatest latency of its finished requests; -1 if there is none");
        RebuildScheduler x = Check.loaded(SMALL);
        statistics(x, 1, "0 0 -1 0");
        x.submit(1, 0, false, 0);
        x.advance(4);
        statistics(x, 1, "0 0 -1 0");
        x.advance(1);
        statistics(x, 1, "1 5 5 1");
        statistics(x, 2, "0 0 -1 0");
        x.loadArray(Check.feed(x, SMALL));
        statistics(x, 1, "0 0 -1 0");
    }

    private static void latencyOfZero() {
        Check.about("Its latency is the tick at which it is finished minus the tick of its submission");
        RebuildScheduler x = Check.loaded(SMALL);
        x.fail(2);
        x.advance(5);
        Check.trace(x, "at 6 2 reads 1 by 6; at 7 2 reads 1;");
        x.submit(1, 1, false, -1);
        statistics(x, 1, "1 0 0 0");
        x.advance(1);
        statistics(x, 2, "1 0 0 0");
        Check.is("a line that is finished at once", x.finishedAt(1), 6);
        x.advance(1);
        statistics(x, 2, "2 0 0 0");
    }

    private static void greatestLatency() {
        Check.about("Returns the greatest latency of its finished requests");
        RebuildScheduler x = Check.loaded(SMALL);
        x.submit(1, 0, false, -1);
        x.submit(1, 0, false, -1);
        x.advance(9);
        statistics(x, 1, "2 14 9 0");
        x.submit(1, 0, false, -1);
        x.advance(5);
        statistics(x, 1, "3 19 9 0");
        x.submit(1, 0, false, -1);
        x.submit(1, 0, false, -1);
        x.advance(9);
        statistics(x, 1, "5 33 9 0");
        statistics(x, 2, "0 0 -1 0");
    }

    private static void latencyFromTheSubmission() {
        Check.about("Its latency is the tick at which it is finished minus the tick of its submission");
        RebuildScheduler x = Check.loaded(SMALL.replace("tenant 0 50 0;", "tenant 0 1 1;"));
        Check.trace(x, "at 1 1 reads 0;");
        for (int i = 0; i < 3; i++) {
            x.submit(1, 0, false, -1);
        }
        Check.advanceTo(x, 4000);
        // L tags 0, 1000000, 2000000, and 3000000 for the line of tick 1
        statistics(x, 1, "4 " + (5 + 1004 + 2004 + 3003) + " 3003 0");
    }

    private static void latencyOfADegradedRead() {
        Check.about("a degraded read is made of it as if it were submitted now (its request goes on)");
        RebuildScheduler x = Check.loaded(SMALL.replace("rebuild 0 1 0", "rebuild 0 1 1"));
        x.submit(1, 0, false, 3);
        x.advance(2);
        x.fail(1);
        Check.is("it goes on", x.requestCount(), 1);
        Check.is("with two operations", x.pending(0), 2);
        x.advance(5);
        Check.is("finished", x.finishedAt(0), 7);
        statistics(x, 1, "1 7 7 1");
    }

    private static void lateAfterItsDeadline() {
        Check.about("It is late if it is finished after its deadline");
        for (int deadline = 4; deadline <= 6; deadline++) {
            RebuildScheduler x = Check.loaded(SMALL);
            x.submit(1, 0, false, deadline);
            x.advance(5);
            Check.is("finished at tick 5, deadline " + deadline, x.late(1), deadline < 5 ? 1 : 0);
        }
        RebuildScheduler none = Check.loaded(SMALL);
        none.submit(1, 0, false, -1);
        none.advance(5);
        Check.is("without a deadline", none.late(1), 0);
        RebuildScheduler open = Check.loaded(SMALL);
        open.submit(1, 0, false, 0);
        open.advance(4);
        Check.is("not finished, its deadline has passed", open.late(1), 0);
        open.advance(1);
        Check.is("finished", open.late(1), 1);
    }

    private static void lateAtTheLastTick() {
        Check.about("DEADLINE is TICK to 99999");
        RebuildScheduler x = Check.loaded(SMALL);
        Check.advanceTo(x, 99994);
        x.submit(1, 0, false, 99999);
        x.submit(2, 1, false, 99998);
        x.advance(5);
        statistics(x, 1, "1 5 5 0");
        statistics(x, 2, "1 5 5 1");
    }
}

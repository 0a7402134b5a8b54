/** The boundary cases of promises 14 to 18, sentence by sentence. */
public final class ChangesEdgesTest {
    // the units 0 to 7 are on the disks 1 2, 2 0, 0 1, 1 2; the parity disks are 0 1 2 0
    private static final String SMALL = "disks 3 stripes 4 base 4 seek 16; rebuild 100 10 0 window 1 cache 2;"
            + "tenant 0 50 0; tenant 200 25 500; slack 5;";
    private static final int[] FAR = {Integer.MIN_VALUE, -3, 400, 65536, Integer.MAX_VALUE};

    public static void main(String[] args) {
        tenantOrUnitOfARequest();
        deadlineOfARequest();
        atMost400Requests();
        requestsAreNumberedFromZero();
        firstExceptionOfSubmit();
        nothingIsChosenByACall();
        readOfAFailedDisk();
        writeWithAFailedDisk();
        readWhenAllUnitsAreHeld();
        diskThatCanFail();
        onlyOneDiskFails();
        operationsHandledByFail();
        servedOperationIsHandledFirst();
        writeIsFinishedByFail();
        failedDiskIsIdleForEver();
        ticksToPass();
        notBeyondTheLastTick();
        longAdvanceIsLikeManyShortOnes();
        tickToPromise();
        promiseInPlaceOfAnother();
        shareToSet();
        Check.end();
    }

    private static void queued(RebuildScheduler x, int tenant, String due) {
        StringBuilder all = new StringBuilder();
        for (int disk = 0; disk <= x.diskCount(); disk++) {
            all.append(x.queueLength(disk, tenant));
        }
        Check.is("queues of tenant " + tenant, all.toString(), due);
    }

    // ---- promise 14

    private static void tenantOrUnitOfARequest() {
        Check.about("if there is no such tenant from 1 on or no such unit");
        RebuildScheduler x = Check.loaded(SMALL);
        for (int tenant : new int[] {-1, 0, 3}) {
            Check.noElement("tenant " + tenant, () -> x.submit(tenant, 0, false, -1));
        }
        for (int unit : new int[] {-1, 8}) {
            Check.noElement("unit " + unit, () -> x.submit(1, unit, true, -1));
        }
        for (int far : FAR) {
            Check.noElement("tenant " + far, () -> x.submit(far, 0, false, -1));
            Check.noElement("unit " + far, () -> x.submit(1, far, false, -1));
        }
        Check.is("no request", x.requestCount(), 0);
        Check.is("the last tenant and the last unit", x.submit(2, 7, true, -1), 0);
        Check.is("the first tenant and the first unit", x.submit(1, 0, false, -1), 1);
        RebuildScheduler lonely = Check.loaded("disks 3 stripes 1 base 1 seek 0; rebuild 0 1 0 window 1 cache 0;");
        Check.noElement("there is tenant 0 alone", () -> lonely.submit(1, 0, false, -1));
    }

    private static void deadlineOfARequest() {
        Check.about("its deadline, not less than the present tick and at most 99999; -1 for none");
        RebuildScheduler x = Check.loaded(SMALL);
        Check.is("deadline 0 at tick 0", x.submit(1, 0, false, 0), 0);
        x.advance(10);
        for (int wrong : new int[] {9, 0, -2, 100000}) {
            Check.noArgument("deadline " + wrong, () -> x.submit(1, 0, false, wrong));
        }
        Check.noArgument("the least", () -> x.submit(1, 0, false, Integer.MIN_VALUE));
        Check.noArgument("the greatest", () -> x.submit(1, 0, false, Integer.MAX_VALUE));
        Check.is("no request was made", x.requestCount(), 1);
        Check.is("deadline 10", x.submit(1, 0, false, 10), 1);
        Check.is("deadline 99999", x.submit(1, 0, false, 99999), 2);
        Check.is("no deadline", x.submit(1, 0, false, -1), 3);
        Check.advanceTo(x, 99999);
        Check.noArgument("deadline 99998 at the last tick", () -> x.submit(1, 0, false, 99998));
        Check.is("deadline 99999 at the last tick", x.submit(1, 0, false, 99999), 4);
    }

    private static RebuildScheduler withRequests(int requests) {
        RebuildScheduler x = Check.loaded(SMALL);
        for (int i = 0; i < requests; i++) {
            x.submit(1 + i % 2, i % 8, i % 3 == 0, -1);
        }
        return x;
    }

    private static void atMost400Requests() {
        Check.about("if there are 400 requests");
        RebuildScheduler x = withRequests(399);
        Check.is("the 400th", x.submit(1, 0, true, -1), 399);
        String before = Snapshot.of(x);
        Check.noState("the 401st", () -> x.submit(1, 0, false, -1));
        Check.noState("the 401st, a write", () -> x.submit(2, 7, true, 99999));
        Check.is("nothing was queued", Snapshot.of(x), before);
        Check.advanceTo(x, 20000);
        Check.is("all are finished", x.finished(1) + x.finished(2), 400);
        Check.noState("finished ones count too", () -> x.submit(1, 0, false, -1));
        x.loadArray(Check.feed(x, SMALL));
        Check.is("a new array begins at 0", x.submit(1, 0, false, -1), 0);
    }

    private static void requestsAreNumberedFromZero() {
        Check.about("There are at most 400 requests, numbered from 0 in the order of their submission");
        RebuildScheduler x = Check.loaded(SMALL);
        Check.is("the first", x.submit(2, 3, false, -1), 0);
        Check.trace(x, "at 2 1 reads 0; at 2 2 writes 4;");
        x.advance(2);
        Check.is("behind two lines", x.submit(1, 0, false, -1), 3);
        Check.is("the write of the trace", x.pending(2), 2);
        Check.is("pending", x.pending(3), 1);
    }

    private static void firstExceptionOfSubmit() {
        Check.about("If several exceptions apply to a call, the one that is listed first is thrown");
        RebuildScheduler x = withRequests(400);
        Check.noElement("tenant, deadline and number", () -> x.submit(0, 0, false, -2));
        Check.noElement("unit, deadline and number", () -> x.submit(1, 8, false, 100000));
        Check.noArgument("deadline and number", () -> x.submit(1, 0, false, 100000));
        Check.noState("number", () -> x.submit(1, 0, false, 0));
    }

    private static void nothingIsChosenByACall() {
        Check.about("A method that submits a request, makes a disk fail or changes something does not choose operations");
        RebuildScheduler x = Check.loaded(SMALL);
        x.submit(1, 0, false, 0);
        x.promise(9);
        x.setShare(1, 5, 5, 5);
        x.fail(2);
        for (int disk = 0; disk <= 3; disk++) {
            Check.is("disk " + disk, x.serving(disk), -1);
        }
        x.advance(1);
        Check.is("this happens at the next tick", x.serving(1), 1);
        x.advance(4);
        x.submit(1, 5, false, -1);
        Check.is("nor at a later tick", x.queueLength(1, 1), 1);
    }

    private static void readOfAFailedDisk() {
        Check.about("If this disk has failed, then it is queued on the spare disk if the stripe is rebuilt");
        for (int disks = 3; disks <= 6; disks++) {
            RebuildScheduler x = Check.loaded("disks " + disks + " stripes 2 base 4 seek 0;"
                    + "rebuild 0 1 0 window 1 cache 0; tenant 0 100 0;");
            x.fail(1);
            x.submit(1, 0, false, -1);
            Check.is("a read on each surviving disk", x.pending(0), disks - 1);
            Check.is("none on the failed one", x.queueLength(1, 1), 0);
            Check.is("none on the spare one", x.queueLength(disks, 1), 0);
            while (x.stripeState(0) != 3) {
                x.advance(1);
            }
            x.submit(1, 0, false, -1);
            Check.is("one on the spare disk", x.queueLength(disks, 1), 1);
            Check.is("pending", x.pending(1), 1);
        }
    }

    private static void writeWithAFailedDisk() {
        Check.about("its write is queued on the spare disk if the stripe is rebuilt, and is omitted otherwise");
        RebuildScheduler x = Check.loaded("disks 3 stripes 2 base 4 seek 0; rebuild 0 1 0 window 1 cache 0; tenant 0 1 0;");
        x.submit(1, 0, true, -1);
        queued(x, 1, "1100");
        x.fail(1);
        queued(x, 1, "1000");
        x.submit(1, 0, true, -1);
        queued(x, 1, "2000");
        Check.is("the data unit's is omitted", x.pending(1), 1);
        x.submit(1, 2, true, -1);
        queued(x, 1, "2010");
        Check.is("the parity unit's is omitted", x.pending(2), 1);
        x.advance(2000);
        Check.is("complete", x.rebuiltCount(), 2);
        x.submit(1, 0, true, -1);
        queued(x, 1, "1001");
        x.submit(1, 2, true, -1);
        queued(x, 1, "1012");
        x.submit(1, 1, true, -1);
        queued(x, 1, "2022");
    }

    private static void readWhenAllUnitsAreHeld() {
        Check.about("If all are held, the request is finished at once");
        RebuildScheduler x = Check.loaded("disks 3 stripes 2 base 4 seek 0; rebuild 0 1 0 window 1 cache 1; tenant 0 1 0;");
        x.fail(1);
        x.advance(5);
        Check.is("stripe 0 is being written", x.stripeState(0), 2);
        Check.is("submit", x.submit(1, 0, false, 5), 0);
        Check.is("finishedAt", x.finishedAt(0), 5);
        Check.is("pending", x.pending(0), 0);
        Check.is("latency", x.worstLatency(1), 0);
        Check.is("not late", x.late(1), 0);
        queued(x, 1, "0000");
        x.submit(1, 2, false, 5);
        x.advance(5);
        Check.is("disk 2 of stripe 1 is held", x.isHeld(2, 1), true);
        // unit 3 is on disk 0, its parity on the failed disk 1: it is no degraded read
        x.submit(1, 3, false, -1);
        Check.is("a read of a surviving disk is queued all the same", x.pending(2), 1);
        Check.trace(x, "at 15 1 reads 3;");
        x.advance(5);
        Check.is("pending", x.requestCount(), 4);
    }

    // ---- promise 15

    private static void diskThatCanFail() {
        Check.about("if there is no such disk (0 to D - 1)");
        for (int disks = 3; disks <= 6; disks++) {
            String text = "disks " + disks + " stripes 1 base 1 seek 0; rebuild 0 1 0 window 1 cache 0;";
            int spare = disks;
            RebuildScheduler x = Check.loaded(text);
            Check.noElement("the spare disk", () -> x.fail(spare));
            Check.noElement("behind it", () -> x.fail(spare + 1));
            Check.noElement("-1", () -> x.fail(-1));
            for (int far : FAR) {
                Check.noElement("disk " + far, () -> x.fail(far));
            }
            Check.is("none has failed", x.failedDisk(), -1);
            Check.is("the last", x.fail(disks - 1), 0);
            Check.is("failedDisk", x.failedDisk(), disks - 1);
            RebuildScheduler first = Check.loaded(text);
            Check.is("the first", first.fail(0), 0);
            Check.is("failedDisk", first.failedDisk(), 0);
        }
    }

    private static void onlyOneDiskFails() {
        Check.about("if a disk has failed already");
        RebuildScheduler x = Check.loaded(SMALL);
        x.submit(1, 0, true, -1);
        x.fail(1);
        String before = Snapshot.of(x);
        for (int disk = 0; disk < 3; disk++) {
            int again = disk;
            Check.noState("disk " + disk, () -> x.fail(again));
        }
        Check.noElement("no such disk is listed first", () -> x.fail(3));
        Check.is("nothing changed", Snapshot.of(x), before);
        x.advance(2000);
        Check.is("complete", x.rebuiltCount(), 4);
        Check.noState("the same disk after the rebuild", () -> x.fail(1));
        Check.noState("another one after the rebuild", () -> x.fail(0));
        x.loadArray(Check.feed(x, SMALL));
        Check.is("a new array", x.fail(0), 0);
    }

    private static void operationsHandledByFail() {
        Check.about("Returns the number of operations that were handled on it");
        RebuildScheduler x = Check.loaded(SMALL);
        x.submit(1, 0, false, -1);
        Check.is("an operation of another disk", x.fail(2), 0);
        x = Check.loaded(SMALL);
        x.submit(1, 0, false, -1);
        x.advance(1);
        Check.is("the one that it serves", x.fail(1), 1);
        x = Check.loaded(SMALL);
        x.submit(1, 0, true, -1);
        x.submit(2, 0, false, -1);
        Check.is("those of its queues", x.fail(1), 2);
        x = withRequests(400);
        x.setShare(1, 0, 1, 0);
        int all = x.queueLength(0, 1) + x.queueLength(0, 2);
        Check.is("a full queue", x.fail(0), all);
        queued(x, 1, "0" + x.queueLength(1, 1) + x.queueLength(2, 1) + "0");
        x = Check.loaded(SMALL);
        x.submit(1, 0, false, -1);
        x.advance(5);
        Check.is("a finished one is not there", x.fail(1), 0);
    }

    private static void servedOperationIsHandledFirst() {
        Check.about("first the one that it serves (if any), then those of its queues, by the numbers of the tenants");
        RebuildScheduler x = Check.loaded("disks 3 stripes 9 base 9 seek 0; rebuild 0 1 0 window 1 cache 0;"
                + "tenant 0 1 0; tenant 0 1 0;");
        // disk 1 has the units 0, 5, 6 and 11 of the stripes 0, 2, 3 and 5
        x.submit(2, 11, false, 0);
        x.submit(2, 0, false, -1);
        x.submit(1, 6, false, -1);
        x.submit(1, 5, false, -1);
        x.advance(1);
        Check.is("disk 1 serves unit 11", x.position(1), 5);
        Check.is("handled", x.fail(1), 4);
        queued(x, 1, "2020");
        queued(x, 2, "2020");
        x.advance(1);
        Check.is("promoted: the read that was served has kept its deadline", x.position(0), 5);
        x.advance(9);
        Check.is("the rebuild and the tenants are equal by their P tags", x.position(0), 0);
        x.advance(9);
        Check.is("then tenant 1 with stripe 3", x.position(0), 3);
    }

    private static void writeIsFinishedByFail() {
        Check.about("a write is finished");
        RebuildScheduler x = Check.loaded("disks 3 stripes 4 base 4 seek 0; rebuild 0 1 0 window 1 cache 0;"
                + "tenant 0 50 0; tenant 0 50 0;");
        x.submit(2, 0, false, 0);
        x.submit(1, 0, true, 6);
        x.advance(7);
        Check.is("the parity is written, the unit is not", x.pending(1), 1);
        Check.is("disk 1 serves the write", x.serving(1), 1);
        Check.is("handled", x.fail(1), 1);
        Check.is("pending", x.pending(1), 0);
        Check.is("finished at the tick of the failure", x.finishedAt(1), 7);
        Check.is("finished", x.finished(1), 1);
        Check.is("latency", x.totalLatency(1), 7);
        Check.is("one tick late", x.late(1), 1);
        Check.is("the service counts as a whole", x.busyTime(1), 8);
        RebuildScheduler early = Check.loaded(SMALL);
        early.submit(1, 0, true, 0);
        early.fail(1);
        Check.is("the write of disk 0 goes on", early.pending(0), 1);
        Check.is("finishedAt", early.finishedAt(0), -1);
    }

    private static void failedDiskIsIdleForEver() {
        Check.about("The disk is idle for ever then");
        RebuildScheduler x = Check.loaded(SMALL);
        x.submit(1, 0, false, -1);
        x.advance(1);
        x.fail(1);
        int busy = x.busyTime(1);
        for (int i = 0; i < 60; i++) {
            x.submit(1, i % 8, i % 2 == 0, x.now() + 3);
            x.advance(7);
            Check.is("serving", x.serving(1), -1);
            Check.is("busyUntil", x.busyUntil(1), -1);
            Check.is("queues", x.queueLength(1, 0) + x.queueLength(1, 1) + x.queueLength(1, 2), 0);
        }
        Check.is("the rebuild is complete", x.rebuiltCount(), 4);
        Check.is("busyTime", x.busyTime(1), busy);
    }

    // ---- promise 16

    private static void ticksToPass() {
        Check.about("n: 1 to 2000");
        RebuildScheduler x = Check.loaded(SMALL);
        for (int wrong : new int[] {0, -1, 2001, 99999, Integer.MIN_VALUE, Integer.MAX_VALUE}) {
            Check.noArgument("advance " + wrong, () -> x.advance(wrong));
            Check.noArgument("without an array", () -> new RebuildScheduler().advance(wrong));
            Check.is("no tick passes", x.now(), 0);
        }
        Check.noState("1 without an array", () -> new RebuildScheduler().advance(1));
        Check.noState("2000 without an array", () -> new RebuildScheduler().advance(2000));
        Check.is("1", x.advance(1), 1);
        Check.is("2000", x.advance(2000), 2001);
        Check.is("1999", x.advance(1999), 4000);
    }

    private static void notBeyondTheLastTick() {
        Check.about("or the present tick would be greater than 99999; no tick passes then");
        RebuildScheduler x = Check.loaded(SMALL);
        Check.trace(x, "at 99999 1 reads 0;");
        Check.advanceTo(x, 98000);
        Check.noArgument("to tick 100000", () -> x.advance(2000));
        Check.is("now", x.now(), 98000);
        Check.is("the line did not come", x.requestCount(), 0);
        Check.is("to the last tick", x.advance(1999), 99999);
        Check.is("the line came", x.requestCount(), 1);
        Check.is("a service that ends after the last tick", x.busyUntil(1), 100003);
        for (int n : new int[] {1, 2, 2000, 2001}) {
            Check.noArgument("beyond it", () -> x.advance(n));
        }
        Check.is("now", x.now(), 99999);
        Check.is("it is served", x.serving(1), 1);
        x.loadArray(Check.feed(x, SMALL));
        Check.is("a new array begins at tick 0", x.advance(2000), 2000);
    }

    /** Whatever happens in the middle of a long advance happens at its own tick. */
    private static void longAdvanceIsLikeManyShortOnes() {
        Check.about("Lets ticks pass, one after the other");
        RebuildScheduler line = Check.loaded(SMALL);
        Check.trace(line, "at 700 1 reads 0; at 701 1 reads 1; at 1500 2 reads 0 by 1600; at 2000 1 reads 0;");
        line.advance(2000);
        Check.is("a line at tick 700", line.finishedAt(0), 704);
        Check.is("a line at tick 701", line.finishedAt(1), 705);
        Check.is("a line at tick 1500", line.finishedAt(2), 1504);
        Check.is("a line at the last of them", line.busyUntil(1), 2004);
        RebuildScheduler ways = Check.loaded("disks 3 stripes 4 base 4 seek 0; rebuild 0 1 0 window 1 cache 0;"
                + "tenant 0 1 1; tenant 0 1 1; tenant 0 1 1; slack 5;");
        for (int tenant = 1; tenant <= 3; tenant++) {
            ways.submit(tenant, 0, false, -1);
        }
        ways.advance(13);
        ways.submit(1, 0, false, 300);
        ways.setShare(2, 5, 1, 5);
        ways.submit(2, 0, false, -1);
        ways.submit(2, 0, false, -1);
        ways.submit(3, 0, false, -1);
        ways.advance(2000);
        Check.is("promoted at its deadline minus slack", ways.finishedAt(3), 299);
        Check.is("reserved at its R tag of 13000", ways.finishedAt(4), 18);
        Check.is("reserved at its R tag of 213000", ways.finishedAt(5), 217);
        Check.is("weighted at its L tag of 1000000", ways.finishedAt(6), 1004);
    }

    // ---- promises 17 and 18

    private static void tickToPromise() {
        Check.about("the promised tick, greater than the present one and at most 99999; -1 for no promise");
        RebuildScheduler x = Check.loaded(SMALL);
        for (int wrong : new int[] {0, -2, 100000, Integer.MIN_VALUE, Integer.MAX_VALUE}) {
            Check.noArgument("promise " + wrong, () -> x.promise(wrong));
            Check.noArgument("without an array", () -> new RebuildScheduler().promise(wrong));
        }
        for (int right : new int[] {-1, 1, 99999}) {
            Check.noState("without an array", () -> new RebuildScheduler().promise(right));
        }
        Check.is("no promise yet", x.stripeDeadline(0), -1);
        Check.is("tick 1 at tick 0", x.promise(1), -1);
        x.advance(10);
        Check.noArgument("the present tick", () -> x.promise(10));
        Check.noArgument("a past tick", () -> x.promise(9));
        Check.is("the refused ones left the old one", x.promise(11), 1);
        Check.is("the last tick", x.promise(99999), 11);
        Check.advanceTo(x, 99998);
        Check.is("the last tick, from the one before", x.promise(99999), 99999);
        x.advance(1);
        Check.noArgument("no tick is greater", () -> x.promise(99999));
        Check.noArgument("no tick is greater", () -> x.promise(100000));
        Check.is("no promise is possible", x.promise(-1), 99999);
        Check.is("it is removed", x.promise(-1), -1);
    }

    private static void promiseInPlaceOfAnother() {
        Check.about("Makes a promise from the present tick on, in place of an earlier one, or removes it");
        RebuildScheduler x = Check.loaded(SMALL);
        x.promise(40);
        Check.is("10 ticks a stripe", x.stripeDeadline(0), 10);
        x.advance(20);
        Check.is("from tick 0 on", x.stripeDeadline(1), 20);
        x.promise(40);
        Check.is("from tick 20 on", x.stripeDeadline(0), 25);
        Check.noArgument("a refused one", () -> x.promise(20));
        Check.is("changes nothing", x.stripeDeadline(0), 25);
        x.promise(-1);
        Check.is("removed", x.stripeDeadline(0), -1);
        Check.is("removed", x.stripeDeadline(3), -1);
        x.promise(24);
        x.loadArray(Check.feed(x, SMALL));
        Check.is("a new array has none", x.promise(-1), -1);
    }

    private static void shareToSet() {
        Check.about("reservation: 0 to 1000, weight: 1 to 100, limit: 0, or the reservation (and at least 1) to 1000");
        RebuildScheduler x = Check.loaded(SMALL);
        int[][] wrong = {{-1, 1, 0}, {1001, 1, 0}, {1001, 1, 1001}, {0, 0, 0}, {0, -1, 0}, {0, 101, 0}, {0, 1, -1},
            {0, 1, 1001}, {1, 1, -1}, {2, 1, 1}, {1000, 1, 999}, {1000, 1, 1001}, {-5, 1, -5},
            {Integer.MIN_VALUE, 1, 0}, {Integer.MAX_VALUE, 1, 0}, {0, Integer.MIN_VALUE, 0},
            {0, Integer.MAX_VALUE, 0}, {0, 1, Integer.MIN_VALUE}, {0, 1, Integer.MAX_VALUE}};
        String before = Snapshot.of(x);
        for (int[] share : wrong) {
            Check.noArgument("a wrong share", () -> x.setShare(1, share[0], share[1], share[2]));
            Check.noElement("of a tenant that is not there", () -> x.setShare(3, share[0], share[1], share[2]));
        }
        for (int far : FAR) {
            Check.noElement("tenant " + far, () -> x.setShare(far, 1, 1, 1));
        }
        Check.noElement("tenant -1", () -> x.setShare(-1, 1, 1, 1));
        Check.is("nothing changed", Snapshot.of(x), before);
        int[][] right = {{0, 1, 0}, {0, 100, 1}, {0, 1, 1000}, {1, 1, 1}, {1000, 100, 1000}, {1000, 1, 0}, {999, 1, 999}};
        for (int tenant = 0; tenant < 3; tenant++) {
            int previous = x.share(tenant, 0);
            for (int[] share : right) {
                Check.is("previous reservation", x.setShare(tenant, share[0], share[1], share[2]), previous);
                previous = share[0];
                for (int what = 0; what < 3; what++) {
                    Check.is("share", x.share(tenant, what), share[what]);
                }
            }
        }
    }
}

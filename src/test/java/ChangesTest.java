/** Promises 14 to 18: submit, fail, advance, promise and setShare. */
public final class ChangesTest {
    // the units 0 to 7 are on the disks 1 2, 2 0, 0 1, 1 2; the parity disks are 0 1 2 0
    private static final String SMALL = "disks 3 stripes 4 base 4 seek 16; rebuild 100 10 0 window 1 cache 2;"
            + "tenant 0 50 0; tenant 200 25 500; slack 5;";

    public static void main(String[] args) {
        submitReadsAndWrites();
        submitRefuses();
        submitAtMost400();
        submitDegraded();
        submitToRebuilt();
        failHandles();
        failRefuses();
        failKeepsTheOrder();
        advanceCounts();
        advanceRefuses();
        ticksGoInOrder();
        promises();
        sharesChange();
        sharesRefuse();
        tagsThatExistStay();
        Check.end();
    }

    private static String lengths(RebuildScheduler x, int tenant) {
        StringBuilder all = new StringBuilder();
        for (int disk = 0; disk <= x.diskCount(); disk++) {
            all.append(x.queueLength(disk, tenant));
        }
        return all.toString();
    }

    private static void queued(RebuildScheduler x, int tenant, String due) {
        if (!lengths(x, tenant).equals(due)) {
            Check.fail("queues of tenant " + tenant + " are " + lengths(x, tenant) + ", due is " + due);
        }
    }

    private static void submitReadsAndWrites() {
        RebuildScheduler x = Check.loaded(SMALL);
        Check.is("a read", x.submit(1, 3, false, -1), 0);
        queued(x, 1, "1000");
        Check.is("a write", x.submit(1, 4, true, 99999), 1);
        queued(x, 1, "2010");
        Check.is("of another tenant", x.submit(2, 7, true, 0), 2);
        queued(x, 2, "1010");
        queued(x, 1, "2010");
        Check.is("pending", x.pending(0), 1);
        Check.is("pending", x.pending(1), 2);
        Check.is("nothing is chosen yet", x.serving(0), -1);
    }

    private static void submitRefuses() {
        RebuildScheduler x = Check.loaded(SMALL);
        x.advance(10);
        Check.noElement("tenant 0", () -> x.submit(0, 0, false, -1));
        Check.noElement("tenant 3", () -> x.submit(3, 0, false, -1));
        Check.noElement("tenant -1", () -> x.submit(-1, 0, false, -1));
        Check.noElement("unit -1", () -> x.submit(1, -1, false, -1));
        Check.noElement("unit 8, and the deadline is wrong too", () -> x.submit(1, 8, true, -2));
        Check.noArgument("deadline -2", () -> x.submit(1, 0, false, -2));
        Check.noArgument("deadline 9", () -> x.submit(1, 0, false, 9));
        Check.noArgument("deadline 100000", () -> x.submit(1, 0, false, 100000));
        Check.is("nothing was submitted", x.requestCount(), 0);
        Check.is("the present tick is fine", x.submit(1, 0, false, 10), 0);
    }

    private static void submitAtMost400() {
        RebuildScheduler x = Check.loaded(SMALL);
        for (int i = 0; i < 400; i++) {
            Check.is("submit", x.submit(1, 0, false, -1), i);
        }
        Check.noState("request 401", () -> x.submit(1, 0, false, -1));
        Check.noArgument("the deadline comes first", () -> x.submit(1, 0, false, -2));
        Check.noElement("the unit comes first", () -> x.submit(1, 8, false, -2));
        Check.is("queueLength", x.queueLength(1, 1), 400);
        Check.is("requestCount", x.requestCount(), 400);
    }

    private static void submitDegraded() {
        RebuildScheduler x = Check.loaded(SMALL);
        x.fail(2);
        x.submit(1, 7, false, -1);
        queued(x, 1, "1100");
        Check.is("a read on each surviving disk", x.pending(0), 2);
        x.submit(1, 1, true, -1);
        queued(x, 1, "2100");
        Check.is("the write of the unit is omitted", x.pending(1), 1);
        x.submit(1, 4, true, -1);
        queued(x, 1, "3100");
        Check.is("the write of the parity is omitted", x.pending(2), 1);
        x.submit(1, 3, false, -1);
        queued(x, 1, "4100");
        Check.is("a read of a surviving disk", x.pending(3), 1);
    }

    private static void submitToRebuilt() {
        RebuildScheduler x = Check.loaded("disks 3 stripes 2 base 4 seek 0; rebuild 0 1 0 window 1 cache 0; tenant 0 1 0;");
        x.fail(2);
        x.advance(9);
        Check.is("stripe 0 is rebuilt", x.stripeState(0), 3);
        x.submit(1, 1, false, -1);
        queued(x, 1, "0001");
        x.submit(1, 1, true, -1);
        queued(x, 1, "1002");
        x.submit(1, 2, true, -1);
        queued(x, 1, "1102");
    }

    private static void failHandles() {
        RebuildScheduler x = Check.loaded(SMALL);
        x.submit(2, 1, false, 50);  // served when the disk fails
        x.advance(1);
        x.submit(2, 7, true, 2);    // disks 2 and 0
        x.submit(1, 2, false, -1);  // disk 2
        x.advance(2);
        Check.is("it is served", x.serving(2), 2);
        Check.is("handled", x.fail(2), 3);
        Check.is("failedDisk", x.failedDisk(), 2);
        Check.is("it is idle", x.serving(2), -1);
        Check.is("it is idle", x.busyUntil(2), -1);
        Check.is("its queue", x.queueLength(2, 1) + x.queueLength(2, 2), 0);
        Check.is("a read of two disks is made of the served one", x.pending(0), 2);
        Check.is("the write on the disk is finished", x.pending(1), 1);
        Check.is("a read of two disks is made of the queued one", x.pending(2), 2);
        Check.is("the rebuild starts", x.stripeState(0), 1);
        Check.is("with its window", x.stripeState(1), 0);
        queued(x, 0, "1100");
        x.advance(30);
        Check.is("its latency counts from its submission", x.finishedAt(0) > 3 ? 1 : 0, 1);
        Check.is("the disk stays idle", x.serving(2), -1);
    }

    private static void failRefuses() {
        RebuildScheduler x = Check.loaded(SMALL);
        Check.noElement("disk -1", () -> x.fail(-1));
        Check.noElement("the spare disk", () -> x.fail(3));
        Check.is("nothing to handle", x.fail(0), 0);
        Check.noState("a second disk", () -> x.fail(1));
        Check.noState("the same disk", () -> x.fail(0));
        Check.noElement("no such disk comes first", () -> x.fail(3));
        Check.is("failedDisk", x.failedDisk(), 0);
    }

    /** The write that the failed disk served ends its request at the tick of the failure. */
    private static void failKeepsTheOrder() {
        RebuildScheduler x = Check.loaded("disks 3 stripes 4 base 9 seek 0; rebuild 0 1 0 window 1 cache 0;"
                + "tenant 0 50 0; tenant 0 50 0;");
        x.submit(2, 7, false, -1);
        x.submit(1, 1, false, -1);
        x.submit(2, 2, true, 1);
        x.advance(1);
        Check.is("disk 2 serves the write that is near its deadline, not the first", x.serving(2), 1);
        Check.is("handled", x.fail(2), 3);
        Check.is("tags: the served one comes first", x.tag(0, 1, 1), 1000);
        Check.is("then the queue of tenant 2", x.queueLength(0, 2), 1);
        x.advance(12);
        Check.is("the write of disk 1 goes on", x.finishedAt(2), 10);
        Check.is("late", x.late(2), 1);
    }

    private static void advanceCounts() {
        RebuildScheduler x = Check.loaded(SMALL);
        Check.is("advance", x.advance(1), 1);
        Check.is("advance", x.advance(2000), 2001);
        Check.is("now", x.now(), 2001);
    }

    private static void advanceRefuses() {
        RebuildScheduler x = Check.loaded(SMALL);
        Check.noArgument("0", () -> x.advance(0));
        Check.noArgument("-1", () -> x.advance(-1));
        Check.noArgument("2001", () -> x.advance(2001));
        Check.noArgument("least", () -> x.advance(Integer.MIN_VALUE));
        Check.noArgument("greatest", () -> x.advance(Integer.MAX_VALUE));
        for (int i = 0; i < 49; i++) {
            x.advance(2000);
        }
        Check.noArgument("beyond the last tick", () -> x.advance(2000));
        Check.is("no tick passed", x.now(), 98000);
        Check.is("the last tick", x.advance(1999), 99999);
        Check.noArgument("beyond the last tick", () -> x.advance(1));
        Check.noArgument("without an array, n comes first", () -> new RebuildScheduler().advance(2001));
        Check.noState("without an array", () -> new RebuildScheduler().advance(2000));
    }

    /** Ends of services, then lines, then stripes, then choices; one tick is like another. */
    private static void ticksGoInOrder() {
        RebuildScheduler x = Check.loaded("disks 3 stripes 2 base 4 seek 0; rebuild 0 1 0 window 1 cache 0; tenant 0 1 0;");
        Check.trace(x, "at 9 1 reads 1; at 9 1 reads 2;");
        x.fail(2);
        x.advance(8);
        Check.is("stripe 0 is being written", x.stripeState(0), 2);
        x.advance(1);
        Check.is("it ends before the lines come", x.pending(0), 1);
        Check.is("on the spare disk", x.serving(3), 1);
        Check.is("stripe 1 starts behind them", x.stripeState(1), 1);
        Check.is("both queues are there when disk 0 chooses", x.serving(0), 1);
        Check.is("and the rebuild's is the later one by its P tag", x.tag(0, 0, 1), 1000000);
        RebuildScheduler one = Check.loaded(SMALL);
        RebuildScheduler many = Check.loaded(SMALL);
        for (RebuildScheduler each : new RebuildScheduler[] {one, many}) {
            each.submit(1, 0, true, 90);
            each.submit(2, 5, false, -1);
            each.fail(0);
        }
        one.advance(40);
        for (int i = 0; i < 40; i++) {
            many.advance(1);
        }
        for (int disk = 0; disk <= 3; disk++) {
            Check.is("busyTime", many.busyTime(disk), one.busyTime(disk));
            Check.is("busyUntil", many.busyUntil(disk), one.busyUntil(disk));
        }
        Check.is("rebuiltCount", many.rebuiltCount(), one.rebuiltCount());
    }

    private static void promises() {
        RebuildScheduler x = Check.loaded(SMALL);
        x.advance(10);
        Check.noArgument("0", () -> x.promise(0));
        Check.noArgument("the present tick", () -> x.promise(10));
        Check.noArgument("-2", () -> x.promise(-2));
        Check.noArgument("beyond the last tick", () -> x.promise(100000));
        Check.is("the first", x.promise(11), -1);
        Check.is("another", x.promise(99999), 11);
        x.advance(3);
        Check.is("none", x.promise(-1), 99999);
        Check.is("none again", x.promise(-1), -1);
        Check.is("the next", x.promise(113), -1);
        Check.is("from the present tick on", x.stripeDeadline(1), 63);
        Check.noArgument("without an array, the tick comes first", () -> new RebuildScheduler().promise(0));
        Check.noState("without an array", () -> new RebuildScheduler().promise(99999));
    }

    private static void sharesChange() {
        RebuildScheduler x = Check.loaded(SMALL);
        Check.is("previous reservation", x.setShare(0, 0, 1, 0), 100);
        Check.is("previous reservation", x.setShare(0, 1000, 100, 1000), 0);
        Check.is("previous reservation", x.setShare(2, 3, 4, 5), 200);
        Check.is("reservation", x.share(2, 0), 3);
        Check.is("weight", x.share(2, 1), 4);
        Check.is("limit", x.share(2, 2), 5);
        Check.is("limit without a reservation", x.setShare(1, 0, 1, 1), 0);
        Check.is("limit like the reservation", x.setShare(1, 9, 1, 9), 0);
        Check.is("no limit", x.setShare(1, 9, 1, 0), 9);
    }

    private static void sharesRefuse() {
        RebuildScheduler x = Check.loaded(SMALL);
        Check.noElement("tenant 3, all wrong", () -> x.setShare(3, -1, 0, -1));
        Check.noElement("tenant -1", () -> x.setShare(-1, 1, 1, 1));
        Check.noArgument("reservation -1", () -> x.setShare(1, -1, 1, 0));
        Check.noArgument("reservation 1001", () -> x.setShare(1, 1001, 1, 0));
        Check.noArgument("weight 0", () -> x.setShare(1, 1, 0, 1));
        Check.noArgument("weight 101", () -> x.setShare(1, 1, 101, 1));
        Check.noArgument("limit -1", () -> x.setShare(1, 0, 1, -1));
        Check.noArgument("limit below the reservation", () -> x.setShare(1, 9, 1, 8));
        Check.noArgument("limit 1001", () -> x.setShare(1, 9, 1, 1001));
        Check.is("nothing changed", x.share(1, 0), 0);
        Check.is("nothing changed", x.share(1, 1), 50);
    }

    private static void tagsThatExistStay() {
        RebuildScheduler x = Check.loaded(SMALL);
        x.submit(2, 0, false, -1);
        x.submit(2, 0, false, -1);
        x.setShare(2, 0, 100, 0);
        x.submit(2, 0, false, -1);
        x.advance(1);
        Check.is("R of the second", x.tag(1, 2, 0), 5000);
        Check.is("P of the second", x.tag(1, 2, 1), 40000);
        Check.is("L of the second", x.tag(1, 2, 2), 2000);
        x.advance(4);
        Check.is("no R of the third", x.tag(1, 2, 0), -1);
        Check.is("P of the third, with the new weight", x.tag(1, 2, 1), 50000);
        Check.is("L of the third", x.tag(1, 2, 2), 0);
        x.setShare(2, 1000, 1, 1000);
        x.submit(2, 0, false, -1);
        x.advance(4);
        Check.is("5000 + 1000, and 1000 less for the third", x.tag(1, 2, 0), 5000);
        Check.is("P of the fourth", x.tag(1, 2, 1), 1050000);
        Check.is("L of the fourth", x.tag(1, 2, 2), 5000);
    }
}

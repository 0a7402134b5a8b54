/** Promises 19 to 28: the disks, their queues and their choices. */
public final class DisksTest {
    // the units 0 to 7 are on the disks 1 2, 2 0, 0 1, 1 2; the parity disks are 0 1 2 0
    private static final String SMALL = "disks 3 stripes 4 base 4 seek 24; rebuild 100 10 0 window 1 cache 2;"
            + "tenant 0 50 0; tenant 200 25 500; slack 5;";

    public static void main(String[] args) {
        presentTick();
        failedDisk();
        queueLengths();
        tagsOfAQueue();
        leastShares();
        reservationIsGivenBack();
        tagsRefuse();
        waysInOrder();
        promotedByDeadline();
        reservedByTag();
        weightedByTag();
        limitHolds();
        tiesGoToTheLowest();
        servicesTakeTime();
        servicesRefuse();
        behindTheReservation();
        behindRoundsDown();
        chosenRefuses();
        Check.end();
    }

    private static RebuildScheduler equalTenants(String one, String two, String more) {
        return Check.loaded("disks 3 stripes 4 base 4 seek 0; rebuild 0 1 0 window 1 cache 0;"
                + "tenant " + one + "; tenant " + two + ";" + more);
    }

    private static void presentTick() {
        RebuildScheduler x = Check.loaded(SMALL);
        Check.is("now", x.now(), 0);
        x.advance(7);
        Check.is("now", x.now(), 7);
    }

    private static void failedDisk() {
        RebuildScheduler x = Check.loaded(SMALL);
        Check.is("failedDisk", x.failedDisk(), -1);
        x.fail(0);
        Check.is("failedDisk", x.failedDisk(), 0);
        x.advance(2000);
        Check.is("the rebuild is complete", x.rebuiltCount(), 4);
        Check.is("failedDisk", x.failedDisk(), 0);
    }

    private static void queueLengths() {
        RebuildScheduler x = Check.loaded(SMALL);
        x.submit(1, 0, false, -1);
        x.submit(1, 0, true, -1);
        Check.is("queueLength", x.queueLength(1, 1), 2);
        Check.is("queueLength", x.queueLength(0, 1), 1);
        Check.is("queueLength", x.queueLength(1, 2), 0);
        x.advance(1);
        Check.is("what is served is not in the queue", x.queueLength(1, 1), 1);
        Check.is("the spare disk", x.queueLength(3, 0), 0);
        Check.noElement("disk 4", () -> x.queueLength(4, 0));
        Check.noElement("disk -1", () -> x.queueLength(-1, 0));
        Check.noElement("tenant 3", () -> x.queueLength(0, 3));
        Check.noElement("tenant -1", () -> x.queueLength(0, -1));
    }

    private static void tags(RebuildScheduler x, int disk, int tenant, long r, long p, long l) {
        Check.is("R tag", x.tag(disk, tenant, 0), r);
        Check.is("P tag", x.tag(disk, tenant, 1), p);
        Check.is("L tag", x.tag(disk, tenant, 2), l);
    }

    private static void tagsOfAQueue() {
        RebuildScheduler x = Check.loaded(SMALL);
        x.submit(2, 0, false, -1);
        x.submit(2, 0, false, -1);
        x.submit(2, 0, false, -1);
        x.submit(1, 0, false, -1);
        tags(x, 1, 2, 0, 0, 0);
        tags(x, 1, 1, -1, 0, 0);
        x.advance(1);
        tags(x, 1, 2, 5000, 40000, 2000);
        x.advance(4);
        tags(x, 1, 2, 10000, 80000, 4000);
        x.submit(2, 7, false, -1);
        tags(x, 2, 2, 5000, 5000, 5000);
        RebuildScheduler odd = equalTenants("3 7 9", "0 1 0", "");
        odd.submit(1, 0, false, -1);
        odd.submit(1, 0, false, -1);
        odd.advance(1);
        tags(odd, 1, 1, 333333, 142857, 111111);
    }

    private static void leastShares() {
        RebuildScheduler x = equalTenants("1 1 1", "0 1 0", "slack 0;");
        x.submit(1, 0, false, 1);
        x.submit(1, 0, false, 900);
        x.submit(1, 0, false, 900);
        tags(x, 1, 1, 0, 0, 0);
        x.advance(1);
        Check.is("promoted", x.chosen(1, 0), 1);
        tags(x, 1, 1, 0, 1000000, 1000000);
        x.advance(4);
        Check.is("reserved", x.chosen(1, 1), 1);
        tags(x, 1, 1, 1000000, 2000000, 2000000);
    }

    private static void reservationIsGivenBack() {
        RebuildScheduler x = Check.loaded(SMALL);
        x.submit(2, 0, false, -1);
        x.submit(2, 0, false, -1);
        x.submit(2, 0, false, -1);
        x.advance(9);
        Check.is("the third one's R tag of 10000 was too late", x.chosen(2, 1), 2);
        Check.is("it was weighted", x.chosen(2, 2), 1);
        x.submit(2, 0, false, -1);
        tags(x, 1, 2, 10000, 120000, 9000);
        RebuildScheduler near = Check.loaded(SMALL);
        near.submit(2, 0, false, 3);
        near.submit(2, 0, false, 90);
        near.submit(1, 0, false, -1);
        near.advance(1);
        Check.is("promoted", near.chosen(2, 0), 1);
        tags(near, 1, 2, 0, 40000, 2000);
        RebuildScheduler later = Check.loaded(SMALL);
        later.submit(1, 0, false, 3);
        later.submit(1, 0, false, -1);
        later.setShare(1, 100, 50, 0);
        later.submit(1, 0, false, -1);
        later.advance(1);
        tags(later, 1, 1, -1, 20000, 0);
        later.setShare(1, 0, 50, 0);
        later.advance(4);
        Check.is("a tag of -10000, as the first was promoted; the reservation is 0 at the second", later.tag(1, 1, 0), -10000);
    }

    private static void tagsRefuse() {
        RebuildScheduler x = Check.loaded(SMALL);
        x.submit(1, 0, false, -1);
        Check.noElement("an empty queue, and what is wrong", () -> x.tag(0, 1, 3));
        Check.noElement("disk 4", () -> x.tag(4, 1, 0));
        Check.noElement("disk -1", () -> x.tag(-1, 1, 0));
        Check.noElement("tenant 3", () -> x.tag(1, 3, 0));
        Check.noElement("tenant -1", () -> x.tag(1, -1, 0));
        Check.noArgument("what 3", () -> x.tag(1, 1, 3));
        Check.noArgument("what -1", () -> x.tag(1, 1, -1));
        Check.noElement("the spare disk's queue", () -> x.tag(3, 0, 0));
    }

    private static void waysInOrder() {
        RebuildScheduler x = Check.loaded("disks 3 stripes 4 base 4 seek 0; rebuild 0 1 0 window 1 cache 0;"
                + "tenant 0 100 0; tenant 1000 1 0; tenant 0 1 0; slack 5;");
        x.submit(1, 0, false, -1);
        x.submit(2, 0, false, -1);
        x.submit(3, 0, false, 6);
        x.advance(1);
        Check.is("a deadline of now + slack is near", x.serving(1), 3);
        x.advance(4);
        Check.is("then the reservation", x.serving(1), 2);
        x.advance(4);
        Check.is("then the weight", x.serving(1), 1);
        x.submit(3, 0, false, 99);
        x.submit(2, 0, false, -1);
        x.advance(4);
        Check.is("a deadline after now + slack is not near", x.serving(1), 2);
        Check.is("chosen", x.chosen(3, 0), 1);
        Check.is("chosen", x.chosen(2, 1), 2);
        Check.is("chosen", x.chosen(1, 2), 1);
        Check.is("chosen", x.chosen(1, 0) + x.chosen(1, 1) + x.chosen(2, 0) + x.chosen(2, 2), 0);
        x.advance(4);
        Check.is("without another one it is weighted", x.chosen(3, 2), 1);
    }

    private static void promotedByDeadline() {
        RebuildScheduler x = equalTenants("0 1 0", "0 100 0", "slack 5;");
        x.submit(1, 0, false, 4);
        x.submit(2, 0, false, 3);
        x.submit(2, 0, false, 2);
        x.advance(1);
        Check.is("the least deadline of the first ones", x.serving(1), 2);
        x.advance(4);
        Check.is("a deadline that has passed", x.serving(1), 2);
        x.advance(4);
        Check.is("then the other", x.serving(1), 1);
        RebuildScheduler usual = equalTenants("0 100 0", "0 1 0", "");
        usual.submit(1, 0, false, -1);
        usual.submit(2, 0, false, 21);
        usual.advance(1);
        Check.is("slack is 20 without it", usual.serving(1), 2);
        RebuildScheduler far = equalTenants("0 100 0", "0 1 0", "");
        far.submit(1, 0, false, -1);
        far.submit(2, 0, false, 22);
        far.advance(1);
        Check.is("slack is 20 without it", far.serving(1), 1);
    }

    private static void reservedByTag() {
        RebuildScheduler x = equalTenants("100 100 0", "200 1 0", "");
        x.submit(1, 0, false, -1);
        x.submit(1, 0, false, -1);
        x.submit(2, 0, false, -1);
        x.submit(2, 0, false, -1);
        x.advance(1);
        Check.is("R tags 0 and 0", x.serving(1), 1);
        x.advance(4);
        Check.is("R tags 10000 and 0", x.serving(1), 2);
        x.advance(4);
        Check.is("R tags 10000 and 5000", x.serving(1), 2);
        Check.is("reserved", x.chosen(2, 1), 2);
    }

    private static void weightedByTag() {
        RebuildScheduler x = equalTenants("0 50 0", "0 100 0", "");
        for (int i = 0; i < 3; i++) {
            x.submit(1, 0, false, -1);
            x.submit(2, 0, false, -1);
        }
        // P tags 0 20000 40000 and 0 10000 20000
        int[] due = {1, 2, 2, 1, 2, 1};
        x.advance(1);
        for (int i = 0; i < 6; i++) {
            Check.is("choice " + i, x.serving(1), due[i]);
            x.advance(4);
        }
    }

    private static void limitHolds() {
        RebuildScheduler x = equalTenants("0 50 10", "100 1 100", "");
        x.submit(1, 0, false, -1);
        x.submit(1, 0, false, -1);
        x.advance(99);
        Check.is("the L tag is 100000", x.serving(1), -1);
        Check.is("busyUntil", x.busyUntil(1), -1);
        x.advance(1);
        Check.is("1000 * now is the L tag", x.serving(1), 1);
        Check.is("busyUntil", x.busyUntil(1), 104);
        x.submit(1, 0, false, 300);
        x.advance(99);
        Check.is("the L tag is 200000", x.serving(1), -1);
        x.advance(1);
        Check.is("the L tag is 200000", x.serving(1), 1);
        RebuildScheduler near = equalTenants("0 50 1", "100 1 100", "slack 0;");
        near.submit(1, 0, false, -1);
        near.submit(1, 0, false, 70);
        near.advance(69);
        Check.is("the L tag is 1000000", near.serving(1), -1);
        near.advance(1);
        Check.is("a deadline does not heed the limit", near.serving(1), 1);
        Check.is("promoted", near.chosen(1, 0), 1);
    }

    private static void tiesGoToTheLowest() {
        RebuildScheduler x = equalTenants("0 1 0", "0 1 0", "");
        x.submit(2, 0, false, -1);
        x.submit(1, 0, false, -1);
        x.advance(1);
        Check.is("equal P tags", x.serving(1), 1);
        x = equalTenants("9 1 0", "9 1 0", "");
        x.submit(2, 0, false, -1);
        x.submit(1, 0, false, -1);
        x.advance(1);
        Check.is("equal R tags", x.serving(1), 1);
        x = equalTenants("0 1 0", "0 1 0", "");
        x.submit(2, 0, false, 4);
        x.submit(1, 0, false, 4);
        x.advance(1);
        Check.is("equal deadlines", x.serving(1), 1);
        x.submit(1, 0, false, -1);
        x.fail(0);
        Check.is("tenant 0 has a tie with none", x.queueLength(1, 0), 1);
    }

    private static void servicesTakeTime() {
        RebuildScheduler x = Check.loaded(SMALL);
        x.submit(1, 6, false, -1);
        x.submit(1, 5, false, -1);
        x.submit(1, 5, false, -1);
        Check.is("position", x.position(1), 0);
        Check.is("idle", x.busyUntil(1), -1);
        x.advance(1);
        // 4 + 3 * 24 / 16 = 8 ticks
        Check.is("serving", x.serving(1), 1);
        Check.is("busyUntil", x.busyUntil(1), 9);
        Check.is("position", x.position(1), 3);
        Check.is("busyTime", x.busyTime(1), 8);
        x.advance(8);
        // 4 + 1 * 24 / 16 = 5 ticks
        Check.is("the next choice is at the same tick", x.busyUntil(1), 14);
        Check.is("position", x.position(1), 2);
        Check.is("busyTime", x.busyTime(1), 13);
        x.advance(5);
        Check.is("no way to go", x.busyUntil(1), 18);
        Check.is("busyTime", x.busyTime(1), 17);
        x.advance(3);
        Check.is("still served", x.serving(1), 1);
        x.advance(1);
        Check.is("idle", x.serving(1), -1);
        Check.is("idle", x.busyUntil(1), -1);
        Check.is("position", x.position(1), 2);
        Check.is("busyTime", x.busyTime(1), 17);
        Check.is("the other disks", x.busyTime(0) + x.busyTime(2) + x.busyTime(3), 0);
        x.submit(1, 5, false, -1);
        x.advance(1);
        x.fail(1);
        Check.is("a service that was begun counts", x.busyTime(1), 21);
        Check.is("the failed disk is idle", x.busyUntil(1), -1);
    }

    private static void servicesRefuse() {
        RebuildScheduler x = Check.loaded(SMALL);
        Check.is("the spare disk", x.serving(3) + x.busyUntil(3) + x.position(3) + x.busyTime(3), -2);
        for (int wrong : new int[] {-1, 4, Integer.MAX_VALUE, Integer.MIN_VALUE}) {
            Check.noElement("serving", () -> x.serving(wrong));
            Check.noElement("busyUntil", () -> x.busyUntil(wrong));
            Check.noElement("position", () -> x.position(wrong));
            Check.noElement("busyTime", () -> x.busyTime(wrong));
        }
    }

    private static void behindTheReservation() {
        RebuildScheduler x = Check.loaded("disks 3 stripes 4 base 50 seek 0; rebuild 0 1 0 window 1 cache 0;"
                + "tenant 0 1 0; tenant 200 1 0;");
        x.submit(1, 0, false, 0);
        x.submit(1, 0, false, -1);
        x.submit(2, 0, false, -1);
        Check.is("not yet", x.behind(1, 2), 0);
        x.advance(30);
        Check.is("the R tag is 0", x.behind(1, 2), 30);
        Check.is("no R tag", x.behind(1, 1), 0);
        Check.is("an empty queue", x.behind(0, 2), 0);
        x.advance(21);
        Check.is("it is served", x.behind(1, 2), 0);
        x.submit(2, 0, false, -1);
        Check.is("the R tag is the present", x.behind(1, 2), 0);
        x.submit(2, 0, false, -1);
        x.advance(50);
        Check.is("the R tag is 56000", x.behind(1, 2), 45);
        Check.noElement("disk 4", () -> x.behind(4, 0));
        Check.noElement("disk -1", () -> x.behind(-1, 0));
        Check.noElement("tenant 3", () -> x.behind(0, 3));
        Check.noElement("tenant -1", () -> x.behind(0, -1));
    }

    private static void behindRoundsDown() {
        RebuildScheduler x = equalTenants("1000 1 0", "0 1 0", "");
        x.submit(1, 0, false, 3);
        x.submit(1, 0, false, -1);
        x.setShare(1, 3, 1, 0);
        x.advance(1);
        Check.is("1000 - 333333", x.tag(1, 1, 0), -332333);
        Check.is("-332333 / 1000 is -333", x.behind(1, 1), 334);
        RebuildScheduler above = equalTenants("3 1 1000", "0 1 0", "");
        above.submit(1, 0, false, -1);
        above.submit(1, 0, false, -1);
        above.advance(4);
        Check.is("333333 / 1000 is still to come", above.behind(1, 1), 0);
    }

    private static void chosenRefuses() {
        RebuildScheduler x = Check.loaded(SMALL);
        x.fail(1);
        x.advance(1);
        Check.is("the rebuild, on two disks", x.chosen(0, 1), 2);
        Check.noElement("tenant 3, and the way is wrong", () -> x.chosen(3, 3));
        Check.noElement("tenant -1", () -> x.chosen(-1, 0));
        Check.noArgument("way 3", () -> x.chosen(0, 3));
        Check.noArgument("way -1", () -> x.chosen(0, -1));
    }
}

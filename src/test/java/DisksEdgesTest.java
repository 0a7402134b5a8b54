/** The boundary cases of promises 19 to 28 and of the section QUEUES AND TAGS, sentence by sentence. */
public final class DisksEdgesTest {
    // the units 0 to 7 are on the disks 1 2, 2 0, 0 1, 1 2; the parity disks are 0 1 2 0
    private static final String SMALL = "disks 3 stripes 4 base 4 seek 24; rebuild 100 10 0 window 1 cache 2;"
            + "tenant 0 50 0; tenant 200 25 500; slack 5;";
    private static final int[] FAR = {Integer.MIN_VALUE, -2, 7, 400, Integer.MAX_VALUE};

    public static void main(String[] args) {
        presentTickAtItsEdges();
        failedDiskOrNone();
        noSuchDiskOrTenant();
        noSuchDisk();
        emptyQueueHasNoTags();
        whatOfATag();
        stepsAreRoundedDown();
        greaterOneOfNowAndLast();
        noTagRWithoutAReservation();
        noTagLWithoutALimit();
        noLastTagOnThisDisk();
        tagsBeyondAnInt();
        deadlineAtNowPlusSlack();
        tagRAtThePresent();
        tagLAtThePresent();
        tiesGoToTheLowestTenant();
        noneToChoose();
        firstOfAQueueBlocksTheOthers();
        servicesRoundDown();
        servicesOfOneTick();
        giveBackAfterWays0And2();
        giveBackNothingWithoutAReservation();
        servingAndIdle();
        behindAtLeastZero();
        behindRoundsBelowZero();
        behindWithoutAnRTag();
        chosenWays();
        Check.end();
    }

    /** Tenants 1 and 2 on three disks that need no time to seek. */
    private static RebuildScheduler two(int base, String one, String other, String more) {
        return Check.loaded("disks 3 stripes 4 base " + base + " seek 0; rebuild 0 1 0 window 1 cache 0;"
                + "tenant " + one + "; tenant " + other + ";" + more);
    }

    private static void tags(String what, RebuildScheduler x, int disk, int tenant, long... due) {
        Check.is("R tag " + what, x.tag(disk, tenant, 0), due[0]);
        Check.is("P tag " + what, x.tag(disk, tenant, 1), due[1]);
        Check.is("L tag " + what, x.tag(disk, tenant, 2), due[2]);
    }

    // ---- promises 19 to 22

    private static void presentTickAtItsEdges() {
        Check.about("Time is counted in ticks from 0 to 99999");
        Check.is("without an array", new RebuildScheduler().now(), 0);
        RebuildScheduler x = Check.loaded(SMALL);
        Check.is("a new array", x.now(), 0);
        Check.advanceTo(x, 99999);
        Check.is("the last tick", x.now(), 99999);
        x.loadArray(Check.feed(x, SMALL));
        Check.is("anew", x.now(), 0);
    }

    private static void failedDiskOrNone() {
        Check.about("Returns the failed disk; -1 if there is none");
        Check.is("without an array", new RebuildScheduler().failedDisk(), -1);
        RebuildScheduler x = Check.loaded(SMALL);
        Check.is("none", x.failedDisk(), -1);
        x.fail(0);
        Check.is("disk 0", x.failedDisk(), 0);
        x.advance(2000);
        Check.is("after the rebuild", x.failedDisk(), 0);
        x.loadArray(Check.feed(x, SMALL));
        Check.is("anew", x.failedDisk(), -1);
    }

    private static void noSuchDiskOrTenant() {
        Check.about("if there is no such disk or tenant");
        RebuildScheduler x = Check.loaded(SMALL);
        for (int disk : new int[] {-1, 4, 5}) {
            noQueue(x, disk, 0);
        }
        for (int tenant : new int[] {-1, 3, 6}) {
            noQueue(x, 0, tenant);
            noQueue(x, 3, tenant);
        }
        for (int far : FAR) {
            noQueue(x, far, 0);
            noQueue(x, 0, far);
            noQueue(x, far, far);
        }
        for (int disk = 0; disk <= 3; disk++) {
            for (int tenant = 0; tenant < 3; tenant++) {
                Check.is("queueLength", x.queueLength(disk, tenant), 0);
                Check.is("behind", x.behind(disk, tenant), 0);
            }
        }
        RebuildScheduler six = Check.loaded("disks 6 stripes 1 base 1 seek 0; rebuild 0 1 0 window 1 cache 0;"
                + "tenant 0 1 0;tenant 0 1 0;tenant 0 1 0;tenant 0 1 0;tenant 0 1 0;");
        Check.is("the last queue", six.queueLength(6, 5), 0);
        noQueue(six, 7, 5);
        noQueue(six, 6, 6);
    }

    private static void noQueue(RebuildScheduler x, int disk, int tenant) {
        Check.noElement("queueLength " + disk + " " + tenant, () -> x.queueLength(disk, tenant));
        Check.noElement("behind " + disk + " " + tenant, () -> x.behind(disk, tenant));
        Check.noElement("tag " + disk + " " + tenant, () -> x.tag(disk, tenant, 0));
        Check.noElement("tag, what is wrong too", () -> x.tag(disk, tenant, 3));
    }

    private static void noSuchDisk() {
        Check.about("if there is no such disk");
        for (int disks = 3; disks <= 6; disks++) {
            RebuildScheduler x = Check.loaded("disks " + disks + " stripes 1 base 1 seek 0; rebuild 0 1 0 window 1 cache 0;");
            for (int disk = 0; disk <= disks; disk++) {
                Check.is("an idle disk", x.serving(disk), -1);
                Check.is("an idle disk", x.busyUntil(disk), -1);
                Check.is("0 at first", x.position(disk), 0);
                Check.is("no service", x.busyTime(disk), 0);
            }
            for (int wrong : new int[] {-1, disks + 1, Integer.MIN_VALUE, Integer.MAX_VALUE}) {
                Check.noElement("serving " + wrong, () -> x.serving(wrong));
                Check.noElement("busyUntil " + wrong, () -> x.busyUntil(wrong));
                Check.noElement("position " + wrong, () -> x.position(wrong));
                Check.noElement("busyTime " + wrong, () -> x.busyTime(wrong));
            }
        }
    }

    private static void emptyQueueHasNoTags() {
        Check.about("if there is no such disk or tenant, or the queue is empty");
        RebuildScheduler x = Check.loaded(SMALL);
        for (int what : new int[] {-1, 0, 1, 2, 3}) {
            Check.noElement("never filled", () -> x.tag(1, 1, what));
        }
        x.submit(1, 0, false, -1);
        Check.is("filled", x.tag(1, 1, 1), 0);
        Check.noElement("another disk", () -> x.tag(0, 1, 1));
        Check.noElement("another tenant", () -> x.tag(1, 2, 1));
        x.advance(1);
        Check.noElement("its only operation is served", () -> x.tag(1, 1, 1));
        Check.noElement("what is wrong too", () -> x.tag(1, 1, 9));
    }

    private static void whatOfATag() {
        Check.about("if what is out of range");
        RebuildScheduler x = Check.loaded(SMALL);
        x.submit(2, 0, false, -1);
        for (int wrong : new int[] {-1, 3}) {
            Check.noArgument("what " + wrong, () -> x.tag(1, 2, wrong));
        }
        for (int far : FAR) {
            Check.noArgument("what " + far, () -> x.tag(1, 2, far));
        }
    }

    // ---- the section QUEUES AND TAGS: tags

    private static void stepsAreRoundedDown() {
        Check.about("a = 1000000 / reservation, b = 1000000 / weight and c = 1000000 / limit, rounded down");
        int[][] shares = {{1, 1, 1}, {2, 3, 2}, {3, 6, 7}, {7, 7, 13}, {600, 99, 999}, {999, 100, 999}, {1000, 64, 1000}};
        for (int[] share : shares) {
            RebuildScheduler x = two(50, share[0] + " " + share[1] + " " + share[2], "0 1 0", "");
            x.submit(1, 0, false, -1);
            x.submit(1, 0, false, -1);
            tags("of the first", x, 1, 1, 0, 0, 0);
            x.advance(1);
            tags("of the second", x, 1, 1, 1000000 / share[0], 1000000 / share[1], 1000000 / share[2]);
        }
        RebuildScheduler odd = two(50, "7 7 13", "0 1 0", "");
        odd.submit(1, 0, false, -1);
        odd.submit(1, 0, false, -1);
        odd.advance(1);
        tags("7, 7 and 13", odd, 1, 1, 142857, 142857, 76923);
    }

    private static void greaterOneOfNowAndLast() {
        Check.about("the greater one of 1000 * now and (last tag) + step");
        for (int tick = 9; tick <= 11; tick++) {
            RebuildScheduler x = two(4, "100 100 100", "0 1 0", "");
            x.submit(1, 0, false, -1);
            Check.advanceTo(x, tick);
            x.submit(1, 0, false, -1);
            long due = tick <= 10 ? 10000 : 11000;
            tags("at tick " + tick, x, 1, 1, due, due, due);
        }
    }

    private static void noTagRWithoutAReservation() {
        Check.about("there is no R tag if the reservation is 0; an R tag that does not exist leaves the last R tag as it is");
        RebuildScheduler x = two(4, "100 1 0", "0 1 0", "");
        x.submit(1, 0, false, -1);
        x.setShare(1, 0, 1, 0);
        x.submit(1, 0, false, -1);
        x.setShare(1, 100, 1, 0);
        x.submit(1, 0, false, -1);
        tags("of the first", x, 1, 1, 0, 0, 0);
        x.advance(1);
        tags("of the second", x, 1, 1, -1, 1000000, 0);
        x.setShare(1, 0, 1, 0);
        x.advance(4);
        tags("of the third: the last one was 0", x, 1, 1, 10000, 2000000, 0);
    }

    private static void noTagLWithoutALimit() {
        Check.about("it is 0 if the limit is 0; an L tag of a tenant without a limit leaves the last L tag as it is");
        RebuildScheduler x = two(4, "0 100 100", "0 1 0", "");
        x.submit(1, 0, false, -1);
        x.setShare(1, 0, 100, 0);
        x.advance(7);
        x.submit(1, 0, false, -1);
        x.setShare(1, 0, 100, 100);
        x.submit(1, 0, false, -1);
        tags("of the second", x, 1, 1, -1, 10000, 0);
        x.advance(1);
        tags("of the third: the last one was 0", x, 1, 1, -1, 20000, 10000);
        RebuildScheduler never = two(4, "0 100 0", "0 1 0", "");
        never.submit(1, 0, false, -1);
        never.advance(7);
        never.setShare(1, 0, 100, 1);
        never.submit(1, 0, false, -1);
        tags("there was no last one", never, 1, 1, -1, 10000, 7000);
    }

    private static void noLastTagOnThisDisk() {
        Check.about("A tenant without a last tag on a disk gets 1000 * now instead of the sum");
        RebuildScheduler x = two(4, "1 1 1", "1 1 1", "");
        x.submit(1, 0, false, -1);
        tags("at tick 0", x, 1, 1, 0, 0, 0);
        x.advance(7);
        x.submit(1, 1, false, -1);
        tags("on another disk", x, 2, 1, 7000, 7000, 7000);
        x.submit(2, 0, false, -1);
        tags("of another tenant", x, 1, 2, 7000, 7000, 7000);
        x.submit(1, 0, false, -1);
        tags("on the first disk", x, 1, 1, 1000000, 1000000, 1000000);
        RebuildScheduler last = two(4, "1 1 1", "1 1 1", "");
        Check.advanceTo(last, 99999);
        last.submit(1, 0, false, -1);
        tags("at the last tick", last, 1, 1, 99999000, 99999000, 99999000);
    }

    private static void tagsBeyondAnInt() {
        Check.about("Returns that tag of the first operation in this queue (a long)");
        RebuildScheduler x = two(1, "1 1 1", "0 1 0", "");
        for (int i = 0; i < 400; i++) {
            x.submit(1, 0, false, 0);
        }
        for (int i = 1; i < 400; i++) {
            x.advance(1);
            Check.is("a promoted one gives its reservation back", x.tag(1, 1, 0), 0);
            Check.is("P tag", x.tag(1, 1, 1), 1000000L * i);
            Check.is("L tag", x.tag(1, 1, 2), 1000000L * i);
        }
        RebuildScheduler down = two(1, "1000 100 0", "0 1 0", "");
        for (int i = 0; i < 400; i++) {
            down.submit(1, 0, false, 0);
        }
        down.setShare(1, 1, 100, 0);
        down.advance(399);
        Check.is("399 less 399 times 1000", down.tag(1, 1, 0), 399000L - 399000000L);
        Check.is("behind", down.behind(1, 1), 399 - 399 + 399000);
    }

    // ---- the section QUEUES AND TAGS: choices

    private static void deadlineAtNowPlusSlack() {
        Check.about("promoted (way 0): of those with a deadline that is at most now + slack");
        int[] slacks = {0, 1, 20, 500};
        String[] texts = {"slack 0;", "slack 1;", "", "slack 500;"};
        for (int i = 0; i < slacks.length; i++) {
            RebuildScheduler near = two(4, "0 1 0", "0 1 0", texts[i]);
            near.submit(1, 0, false, 1 + slacks[i]);
            near.advance(1);
            Check.is("at most now + " + slacks[i], near.chosen(1, 0), 1);
            RebuildScheduler far = two(4, "0 1 0", "0 1 0", texts[i]);
            far.submit(1, 0, false, 2 + slacks[i]);
            far.advance(1);
            Check.is("more than now + " + slacks[i], far.chosen(1, 2), 1);
        }
        RebuildScheduler past = two(4, "0 1 0", "0 1 0", "slack 0;");
        past.submit(1, 0, false, 0);
        past.submit(1, 0, false, 0);
        past.advance(5);
        Check.is("deadlines that have passed", past.chosen(1, 0), 2);
    }

    private static void tagRAtThePresent() {
        Check.about("reserved (way 1): of those with an R tag of at most 1000 * now");
        // the second operation is chosen at tick 1 + base; its R tag is 10000, or 3333
        int[][] cases = {{100, 8, 0}, {100, 9, 1}, {100, 10, 1}, {300, 2, 0}, {300, 3, 1}};
        for (int[] each : cases) {
            RebuildScheduler x = two(each[1], each[0] + " 1 0", "0 1 0", "");
            x.submit(1, 0, false, -1);
            x.submit(1, 0, false, -1);
            x.advance(1 + each[1]);
            Check.is("reserved at tick " + x.now(), x.chosen(1, 1), 1 + each[2]);
            Check.is("weighted at tick " + x.now(), x.chosen(1, 2), 1 - each[2]);
        }
        // late enough that a thousandth too much or too little would be seen
        RebuildScheduler late = reservedAlone();
        Check.advanceTo(late, 353);
        Check.is("R tag 353333 at tick 353", late.serving(1), -1);
        Check.is("behind", late.behind(1, 1), 0);
        late.advance(1);
        Check.is("R tag 353333 at tick 354", late.serving(1), 1);
        Check.is("reserved", late.chosen(1, 1), 2);
        RebuildScheduler jump = reservedAlone();
        jump.advance(900);
        Check.is("in one advance", jump.finishedAt(3), 358);
    }

    /** At tick 20 tenant 1 gets two operations whose L tags are far away, with the R tags 20000 and 353333. */
    private static RebuildScheduler reservedAlone() {
        RebuildScheduler x = two(4, "0 1 1", "0 1 0", "slack 0;");
        x.submit(1, 0, false, 1);
        x.submit(1, 0, false, 1);
        x.advance(20);
        x.setShare(1, 3, 1, 3);
        x.submit(1, 0, false, -1);
        x.submit(1, 0, false, -1);
        tags("of the third", x, 1, 1, 20000, 2000000, 1333333);
        return x;
    }

    private static void tagLAtThePresent() {
        Check.about("weighted (way 2): of those with an L tag of at most 1000 * now");
        int[][] cases = {{100, 10}, {300, 4}, {3, 334}, {1, 1000}, {999, 2}, {1000, 2}};
        for (int[] each : cases) {
            RebuildScheduler x = two(1, "0 1 " + each[0], "0 1 0", "");
            x.submit(1, 0, false, -1);
            x.submit(1, 0, false, -1);
            Check.advanceTo(x, each[1] - 1);
            Check.is("before tick " + each[1], x.chosen(1, 2), 1);
            Check.is("idle or with the first", x.queueLength(1, 1), 1);
            x.advance(1);
            Check.is("at tick " + each[1], x.chosen(1, 2), 2);
            Check.is("busyUntil", x.busyUntil(1), each[1] + 1);
            RebuildScheduler jump = two(1, "0 1 " + each[0], "0 1 0", "");
            jump.submit(1, 0, false, -1);
            jump.submit(1, 0, false, -1);
            jump.advance(2000);
            Check.is("in one advance", jump.finishedAt(1), each[1] + 1);
        }
    }

    private static void tiesGoToTheLowestTenant() {
        Check.about("Ties go to the tenant with the lowest number");
        String five = "tenant 100 9 0;tenant 100 9 0;tenant 100 9 0;tenant 100 9 0;tenant 100 9 0;";
        for (int way = 0; way < 3; way++) {
            RebuildScheduler x = Check.loaded("disks 3 stripes 4 base 4 seek 0; rebuild 100 9 0 window 1 cache 0;"
                    + (way == 2 ? five.replace("100", "0") : five) + "slack 0;");
            x.setShare(0, way == 2 ? 0 : 100, 9, 0);
            if (way == 0) {
                x.promise(4);  // stripe 0 has the deadline 1
            }
            for (int tenant = 5; tenant >= 1; tenant--) {
                x.submit(tenant, 5, false, way == 0 ? 1 : -1);
            }
            x.fail(2);
            for (int tenant = 0; tenant <= 5; tenant++) {
                x.advance(tenant == 0 ? 1 : 4);
                Check.is("way " + way, x.serving(1), tenant);
                Check.is("chosen", x.chosen(tenant, way) > 0, true);
            }
        }
    }

    private static void noneToChoose() {
        Check.about("If there is none, the disk stays idle");
        RebuildScheduler x = two(4, "0 1 1", "0 1 0", "slack 0;");
        x.advance(50);
        Check.is("no operation at all", x.serving(1), -1);
        x.submit(1, 0, false, -1);
        x.submit(1, 0, false, 1049);
        x.advance(5);
        Check.is("a far deadline, no R tag, an L tag of 1050000", x.serving(1), -1);
        Check.is("it stays in its queue", x.queueLength(1, 1), 1);
        Check.advanceTo(x, 1048);
        Check.is("still", x.serving(1), -1);
        x.advance(1);
        Check.is("its deadline", x.chosen(1, 0), 1);
        Check.is("busyTime", x.busyTime(1), 8);
    }

    private static void firstOfAQueueBlocksTheOthers() {
        Check.about("chooses an operation among the first ones of its queues");
        RebuildScheduler x = two(4, "0 1 1", "0 100 0", "slack 0;");
        x.submit(1, 0, false, -1);
        x.submit(1, 0, false, -1);
        x.submit(1, 0, false, 0);
        x.submit(2, 0, false, -1);
        x.advance(5);
        Check.is("the third one's deadline does not count", x.serving(1), 2);
        x.advance(90);
        Check.is("the second one waits for its L tag", x.queueLength(1, 1), 2);
    }

    private static void servicesRoundDown() {
        Check.about("it takes base + |position of the disk - its stripe| * seek / 16 ticks, rounded down");
        int[][] cases = {{0, 63, 0}, {1, 15, 0}, {1, 16, 1}, {1, 31, 1}, {1, 32, 2}, {1, 63, 3}, {15, 1, 0}, {16, 1, 1},
            {17, 1, 1}, {31, 1, 1}, {32, 1, 2}, {99, 1, 6}, {99, 0, 0}, {99, 62, 383}, {99, 63, 389}};
        for (int[] each : cases) {
            for (int base : new int[] {1, 50}) {
                RebuildScheduler x = Check.loaded("disks 3 stripes 64 base " + base + " seek " + each[0]
                        + "; rebuild 0 1 0 window 1 cache 0; tenant 0 1 0;");
                int unit = 2 * each[1];
                int disk = x.diskOf(unit);
                int back = x.diskOf(0) == disk ? 0 : x.diskOf(1) == disk ? 1 : 3;
                x.submit(1, unit, false, -1);
                x.submit(1, back, false, -1);
                x.advance(1);
                Check.is("there", x.busyUntil(disk), 1 + base + each[2]);
                Check.is("position", x.position(disk), each[1]);
                Check.is("busyTime", x.busyTime(disk), base + each[2]);
                Check.advanceTo(x, 1 + base + each[2]);
                int way = Math.abs(each[1] - x.stripeOf(back)) * each[0] / 16;
                Check.is("and back", x.busyUntil(disk), 1 + 2 * base + each[2] + way);
                Check.is("position", x.position(disk), x.stripeOf(back));
                Check.is("busyTime", x.busyTime(disk), 2 * base + each[2] + way);
            }
        }
    }

    private static void servicesOfOneTick() {
        Check.about("each operation whose service ends at this tick is finished; each idle disk chooses an operation");
        RebuildScheduler x = two(1, "0 1 0", "0 1 0", "");
        for (int i = 0; i < 20; i++) {
            x.submit(1, 0, false, -1);
        }
        for (int tick = 1; tick <= 20; tick++) {
            x.advance(1);
            Check.is("served in each tick", x.busyUntil(1), tick + 1);
            Check.is("finished", x.finished(1), tick - 1);
        }
        x.advance(1);
        Check.is("idle", x.busyUntil(1), -1);
        Check.is("busyTime", x.busyTime(1), 20);
    }

    private static void giveBackAfterWays0And2() {
        Check.about("After a choice in way 0 or 2, a is subtracted from the R tags of all operations that are left");
        // the R tags of the second to the fifth operation when they become the first of the queue
        long[][] due = {{0, 10000, 20000, 30000}, {10000, 20000, 20000, 30000}, {-10000, 0, 10000, 20000}};
        for (int way = 0; way < 3; way++) {
            RebuildScheduler x = two(9, way == 2 ? "0 1 0" : "100 1 0", "0 1 0", "slack 0;");
            x.submit(1, 0, false, way == 0 ? 1 : -1);
            x.setShare(1, 100, 1, 0);
            x.submit(1, 0, false, -1);
            x.submit(1, 0, false, -1);
            x.submit(1, 0, false, -1);
            x.advance(1);
            Check.is("way " + way, x.chosen(1, way), 1);
            x.submit(1, 0, false, -1);
            for (int i = 0; i < 4; i++) {
                Check.is("R tag " + (i + 2) + ", the first was chosen in way " + way, x.tag(1, 1, 0), due[way][i]);
                x.advance(9);
            }
        }
    }

    private static void giveBackNothingWithoutAReservation() {
        Check.about("(where these tags exist; nothing happens if the reservation of the tenant is 0 now)");
        RebuildScheduler x = two(4, "100 1 0", "100 1 0", "slack 0;");
        x.submit(1, 0, false, 1);
        x.submit(1, 0, false, -1);
        x.submit(2, 0, false, -1);
        x.submit(2, 0, false, -1);
        x.setShare(1, 0, 1, 0);
        x.advance(1);
        Check.is("promoted", x.chosen(1, 0), 1);
        Check.is("R tag of the second", x.tag(1, 1, 0), 10000);
        x.setShare(1, 100, 1, 0);
        x.submit(1, 0, false, -1);
        x.advance(4);
        Check.is("another tenant keeps its tags", x.tag(1, 2, 0), 10000);
        RebuildScheduler none = two(4, "0 1 0", "0 1 0", "slack 0;");
        none.submit(1, 0, false, 1);
        none.submit(1, 0, false, -1);
        none.setShare(1, 100, 1, 0);
        none.advance(1);
        Check.is("an R tag that does not exist", none.tag(1, 1, 0), -1);
        none.submit(1, 0, false, -1);
        none.setShare(1, 0, 1, 0);
        none.advance(4);
        Check.is("there was no last R tag", none.tag(1, 1, 0), 1000);
    }

    // ---- promises 23 to 28

    private static void servingAndIdle() {
        Check.about("-1 if it is idle");
        RebuildScheduler x = Check.loaded(SMALL);
        x.submit(2, 0, false, -1);
        Check.is("before the next tick", x.serving(1), -1);
        Check.is("before the next tick", x.busyUntil(1), -1);
        x.advance(1);
        Check.is("serving", x.serving(1), 2);
        Check.is("busyUntil", x.busyUntil(1), 5);
        x.advance(3);
        Check.is("the tick before", x.serving(1), 2);
        x.advance(1);
        Check.is("the tick of its end", x.serving(1), -1);
        Check.is("the tick of its end", x.busyUntil(1), -1);
        x.fail(0);
        x.advance(1);
        Check.is("tenant 0", x.serving(1), 0);
        x.advance(4);
        Check.is("the spare disk", x.serving(3), 0);
        Check.is("the spare disk", x.busyUntil(3), 14);
    }

    private static void behindAtLeastZero() {
        Check.about("by how many ticks the reservation of the tenant is behind: at least 0");
        RebuildScheduler x = two(50, "100 1 0", "0 1 0", "");
        x.submit(2, 0, false, 0);
        x.submit(1, 0, false, -1);
        x.submit(1, 0, false, -1);
        Check.is("R tag 0 at tick 0", x.behind(1, 1), 0);
        for (int tick = 1; tick <= 50; tick++) {
            x.advance(1);
            Check.is("R tag 0", x.behind(1, 1), tick);
        }
        x.advance(1);
        Check.is("R tag 10000 at tick 51", x.behind(1, 1), 41);
        RebuildScheduler ahead = two(50, "300 1 0", "0 1 0", "");
        ahead.submit(1, 0, false, -1);
        ahead.submit(1, 0, false, -1);
        int[] due = {0, 0, 0, 0, 1, 2};
        for (int tick = 1; tick <= 5; tick++) {
            ahead.advance(1);
            Check.is("R tag 3333 at tick " + tick, ahead.behind(1, 1), due[tick]);
        }
        Check.is("an empty queue", ahead.behind(1, 2), 0);
    }

    private static void behindRoundsBelowZero() {
        Check.about("which is rounded down (also below 0: -1500 / 1000 is -2)");
        int[][] cases = {{400, -1500, 3}, {500, -1000, 2}, {499, -1004, 3}, {1000, 0, 1}, {999, -1, 2}, {1, -999000, 1000}};
        for (int[] each : cases) {
            RebuildScheduler x = two(50, "1000 1 0", "0 1 0", "");
            x.submit(1, 0, false, 0);
            x.submit(1, 0, false, -1);
            x.setShare(1, each[0], 1, 0);
            x.advance(1);
            Check.is("R tag", x.tag(1, 1, 0), each[1]);
            Check.is("behind of " + each[1], x.behind(1, 1), each[2]);
        }
    }

    private static void behindWithoutAnRTag() {
        Check.about("0 if the queue is empty or this R tag does not exist");
        RebuildScheduler x = two(50, "0 1 0", "100 1 0", "");
        x.submit(1, 0, false, 0);
        x.submit(1, 0, false, -1);
        x.advance(40);
        Check.is("no R tag", x.behind(1, 1), 0);
        x.setShare(1, 1000, 1, 0);
        Check.is("a reservation of now does not make one", x.behind(1, 1), 0);
        Check.is("an empty queue", x.behind(1, 2), 0);
        Check.is("the spare disk", x.behind(3, 2), 0);
    }

    private static void chosenWays() {
        Check.about("if way is out of range (0 to 2)");
        RebuildScheduler x = Check.loaded(SMALL);
        x.fail(2);
        x.advance(1);
        Check.is("on all disks", x.chosen(0, 1), 2);
        Check.is("way 0", x.chosen(0, 0), 0);
        Check.is("way 2", x.chosen(0, 2), 0);
        for (int wrong : new int[] {-1, 3}) {
            Check.noArgument("way " + wrong, () -> x.chosen(2, wrong));
            Check.noElement("tenant 3, way " + wrong, () -> x.chosen(3, wrong));
            Check.noElement("tenant -1, way " + wrong, () -> x.chosen(-1, wrong));
        }
        for (int far : FAR) {
            Check.noArgument("way " + far, () -> x.chosen(0, far));
            Check.noElement("tenant " + far, () -> x.chosen(far, 0));
        }
        Check.is("the last tenant", x.chosen(2, 2), 0);
    }
}

/** Promises 38 to 47: the rebuild. */
public final class RebuildTest {
    // the units 0 to 5 are on the disks 1 2, 2 0, 0 1; the parity disks are 0 1 2
    private static final String SMALL = "disks 3 stripes 3 base 4 seek 0; rebuild 0 1 0 window 1 cache 1; tenant 0 100 0;";

    public static void main(String[] args) {
        statesOfAStripe();
        windowOfStripes();
        readsAreSaved();
        savedReadsLeaveTheQueueInOrder();
        readsArePiggybacked();
        writesUndoHolding();
        writesToCollecting();
        writesToWriting();
        startsWithAllHeld();
        servedReadsCountAfterTheFailure();
        deadlinesOfStripes();
        operationsHaveTheirDeadlines();
        forecasts();
        forecastChangesNothing();
        forecastLosesLines();
        forecastEnds();
        bounds();
        boundsOfAllDisks();
        refuse();
        Check.end();
    }

    private static void states(RebuildScheduler x, String due) {
        StringBuilder got = new StringBuilder();
        for (int stripe = 0; stripe < x.stripeCount(); stripe++) {
            got.append(x.stripeState(stripe));
        }
        if (!got.toString().equals(due)) {
            Check.fail("at tick " + x.now() + " the states are " + got + ", due is " + due);
        }
    }

    private static void statesOfAStripe() {
        RebuildScheduler x = Check.loaded(SMALL);
        states(x, "-1-1-1");
        x.fail(2);
        states(x, "100");
        Check.is("the unit is not held", x.isHeld(0, 0), false);
        x.advance(4);
        states(x, "100");
        x.advance(1);
        states(x, "200");
        Check.is("held", x.isHeld(0, 0), true);
        Check.is("held", x.isHeld(1, 0), true);
        Check.is("the failed disk's", x.isHeld(2, 0), false);
        Check.is("a held unit of a writing stripe is not cached", x.cachedUnits(), 0);
        Check.is("rebuiltCount", x.rebuiltCount(), 0);
        x.advance(4);
        states(x, "310");
        Check.is("not held any more", x.isHeld(0, 0), false);
        Check.is("rebuiltCount", x.rebuiltCount(), 1);
        Check.is("completedAt", x.completedAt(), -1);
        x.advance(16);
        states(x, "333");
        Check.is("rebuiltCount", x.rebuiltCount(), 3);
        Check.is("completedAt", x.completedAt(), 25);
        x.advance(50);
        Check.is("completedAt", x.completedAt(), 25);
        Check.is("saved and piggybacked", x.savedReads() + x.piggybackedReads(), 0);
    }

    private static void windowOfStripes() {
        RebuildScheduler x = Check.loaded("disks 4 stripes 5 base 4 seek 0; rebuild 0 1 0 window 3 cache 0; tenant 0 1 0;");
        x.fail(0);
        states(x, "11100");
        Check.is("the failed disk", x.queueLength(0, 0), 0);
        Check.is("a surviving disk", x.queueLength(3, 0), 3);
        x.advance(5);
        states(x, "21100");
        x.advance(4);
        states(x, "32110");
        RebuildScheduler few = Check.loaded("disks 4 stripes 2 base 4 seek 0; rebuild 0 1 0 window 8 cache 0;");
        few.fail(3);
        states(few, "11");
    }

    private static void readsAreSaved() {
        RebuildScheduler x = Check.loaded(SMALL);
        x.fail(2);
        x.submit(1, 0, false, 9);
        x.advance(1);
        Check.is("disk 1 serves the near deadline", x.serving(1), 1);
        Check.is("the rebuild's read waits", x.queueLength(1, 0), 1);
        x.advance(4);
        Check.is("it is removed", x.queueLength(1, 0), 0);
        Check.is("savedReads", x.savedReads(), 1);
        Check.is("piggybackedReads", x.piggybackedReads(), 0);
        Check.is("all units are held", x.stripeState(0), 2);
        Check.is("the write is served at once", x.serving(3), 0);
        Check.is("busyUntil", x.busyUntil(3), 9);
        x.submit(1, 0, false, 9);
        x.advance(4);
        Check.is("a read of a held unit saves nothing", x.savedReads(), 1);
        RebuildScheduler wide = Check.loaded("disks 3 stripes 3 base 4 seek 0; rebuild 0 1 0 window 3 cache 1; tenant 0 100 0;");
        wide.fail(0);
        wide.submit(1, 5, false, 0);
        wide.advance(1);
        Check.is("three reads wait", wide.queueLength(1, 0), 3);
        wide.advance(4);
        Check.is("the last of them is removed, the first is served", wide.queueLength(1, 0), 1);
        Check.is("savedReads", wide.savedReads(), 1);
        Check.is("isHeld", wide.isHeld(1, 2), true);
        wide.advance(4);
        Check.is("the second follows", wide.serving(1), 0);
        Check.is("its queue is empty", wide.queueLength(1, 0), 0);
        Check.is("position", wide.position(1), 1);
    }

    private static void savedReadsLeaveTheQueueInOrder() {
        RebuildScheduler x = Check.loaded("disks 3 stripes 6 base 4 seek 0; rebuild 0 1 0 window 4 cache 0; tenant 0 100 0;");
        x.fail(0);
        // disk 2 has the units 1, 2 and 7 of the stripes 0, 1 and 3, and the parity of the stripe 2
        x.submit(1, 7, false, 0);
        x.submit(1, 2, false, 1);
        x.advance(5);
        Check.is("the last of four reads is gone", x.queueLength(2, 0), 3);
        x.advance(4);
        Check.is("the one in the middle is gone, the first is served", x.queueLength(2, 0), 1);
        Check.is("savedReads", x.savedReads(), 2);
        x.advance(4);
        Check.is("the stripe 2 follows", x.position(2), 2);
        Check.is("stripe 1 is rebuilt, stripe 4 has started", x.queueLength(2, 0), 1);
        x.advance(4);
        Check.is("its read is behind the others", x.position(2), 4);
        while (x.completedAt() == -1 && x.now() < 200) {
            x.advance(1);
        }
        Check.is("all six stripes", x.rebuiltCount(), 6);
        Check.is("four reads of disk 2 for the rebuild, two for the tenant", x.busyTime(2), 24);
    }

    private static void readsArePiggybacked() {
        RebuildScheduler x = Check.loaded(SMALL);
        x.fail(2);
        x.submit(1, 4, false, 0);
        x.submit(1, 5, false, 0);
        x.advance(5);
        Check.is("disk 0 was first", x.isHeld(0, 2), true);
        Check.is("the cache is full", x.isHeld(1, 2), false);
        Check.is("piggybackedReads", x.piggybackedReads(), 1);
        Check.is("cachedUnits", x.cachedUnits(), 1);
        Check.is("savedReads", x.savedReads(), 0);
        x.submit(1, 4, false, 5);
        x.advance(8);
        Check.is("the unit was read once more", x.finished(1), 3);
        Check.is("but it was held", x.piggybackedReads(), 1);
        x.advance(8);
        states(x, "331");
        Check.is("it is not cached any more", x.cachedUnits(), 0);
        Check.is("but held", x.isHeld(0, 2), true);
        Check.is("it spares a read", x.serving(0), -1);
        Check.is("the other unit is read", x.serving(1), 0);
        RebuildScheduler none = Check.loaded(SMALL.replace("cache 1", "cache 0"));
        none.fail(2);
        none.submit(1, 4, false, 0);
        none.advance(9);
        Check.is("no cache", none.piggybackedReads() + none.cachedUnits(), 0);
        RebuildScheduler whole = Check.loaded(SMALL);
        whole.submit(1, 4, false, 0);
        whole.advance(9);
        Check.is("no disk has failed", whole.piggybackedReads() + whole.cachedUnits(), 0);
        Check.is("isHeld", whole.isHeld(0, 2), false);
    }

    private static void writesUndoHolding() {
        RebuildScheduler x = Check.loaded(SMALL);
        x.fail(2);
        x.submit(1, 4, false, 0);
        x.submit(1, 4, true, 0);
        x.advance(5);
        Check.is("cachedUnits", x.cachedUnits(), 1);
        x.advance(4);
        Check.is("the unit was written", x.isHeld(0, 2), false);
        Check.is("cachedUnits", x.cachedUnits(), 0);
        Check.is("no read of a waiting stripe", x.queueLength(0, 0), 0);
        Check.is("the disk reads stripe 0", x.position(0), 0);
        x.submit(1, 5, false, 10);
        x.advance(5);
        Check.is("there is room again", x.isHeld(1, 2), true);
        Check.is("piggybackedReads", x.piggybackedReads(), 2);
    }

    private static void writesToCollecting() {
        RebuildScheduler x = Check.loaded(SMALL);
        x.fail(2);
        x.submit(1, 5, false, 0);  // keeps disk 1 from the rebuild's read
        x.submit(1, 5, false, 1);
        x.advance(5);
        Check.is("disk 0 of the collecting stripe is held", x.isHeld(0, 0), true);
        x.submit(1, 1, true, 5);   // the parity on disk 0 alone
        Check.is("pending", x.pending(2), 1);
        x.advance(4);
        Check.is("the write begins at the next tick", x.busyUntil(0), 10);
        Check.is("still held", x.isHeld(0, 0), true);
        Check.is("disk 1 reads for the rebuild", x.serving(1), 0);
        x.advance(1);
        Check.is("the write has ended", x.isHeld(0, 0), false);
        states(x, "100");
        Check.is("a new read is queued and served at once", x.serving(0), 0);
        Check.is("with the next P tag", x.chosen(0, 2), 3);
        x.advance(3);
        states(x, "100");
        x.advance(1);
        states(x, "200");
    }

    private static void writesToWriting() {
        RebuildScheduler x = Check.loaded(SMALL);
        x.fail(2);
        x.advance(4);
        x.submit(1, 1, true, 5);
        x.advance(1);
        states(x, "200");
        Check.is("the write of the parity", x.serving(0), 1);
        x.advance(4);
        states(x, "310");
        RebuildScheduler slow = Check.loaded(SMALL.replace("window 1", "window 2"));
        slow.fail(2);
        slow.setShare(0, 0, 1, 1);  // the spare disk writes stripe 1 at tick 1005
        slow.advance(9);
        states(slow, "321");
        slow.submit(1, 3, true, 9);
        slow.advance(8);
        Check.is("the units were written", slow.finishedAt(0), 17);
        states(slow, "322");
        Check.is("held all the same", slow.isHeld(0, 1), true);
        Check.is("held all the same", slow.isHeld(1, 1), true);
        Check.is("and no read is queued", slow.queueLength(0, 0) + slow.queueLength(1, 0), 0);
        Check.is("nor served", slow.serving(0), -1);
    }

    private static void startsWithAllHeld() {
        RebuildScheduler x = Check.loaded(SMALL.replace("cache 1", "cache 4"));
        x.fail(2);
        x.submit(1, 3, false, 0);
        x.submit(1, 2, false, 0);
        x.advance(5);
        Check.is("disk 0 of stripe 1", x.isHeld(0, 1), true);
        Check.is("disk 1 of stripe 1", x.isHeld(1, 1), true);
        Check.is("piggybackedReads", x.piggybackedReads(), 2);
        x.advance(8);
        states(x, "200");
        x.advance(4);
        states(x, "320");
        Check.is("it becomes writing at once, in the tick of its start", x.busyUntil(3), 21);
        Check.is("without a read", x.queueLength(0, 0) + x.queueLength(1, 0), 0);
        Check.is("cachedUnits", x.cachedUnits(), 0);
    }

    private static void servedReadsCountAfterTheFailure() {
        RebuildScheduler x = Check.loaded(SMALL);
        x.submit(1, 0, false, -1);
        x.advance(1);
        x.fail(2);
        x.advance(4);
        Check.is("a read that was begun before", x.savedReads(), 1);
        Check.is("isHeld", x.isHeld(1, 0), true);
    }

    private static void deadlinesOfStripes() {
        RebuildScheduler x = Check.loaded("disks 3 stripes 7 base 4 seek 0; rebuild 0 1 0 window 1 cache 1;");
        Check.is("no promise", x.stripeDeadline(0), -1);
        x.advance(10);
        x.promise(110);
        int[] due = {24, 38, 52, 67, 81, 95, 110};
        for (int stripe = 0; stripe < 7; stripe++) {
            Check.is("stripeDeadline", x.stripeDeadline(stripe), due[stripe]);
        }
        x.advance(10);
        Check.is("it stays", x.stripeDeadline(0), 24);
        x.promise(27);
        Check.is("a new promise", x.stripeDeadline(0), 21);
        x.promise(-1);
        Check.is("no promise", x.stripeDeadline(6), -1);
        RebuildScheduler long64 = Check.loaded("disks 3 stripes 64 base 4 seek 0; rebuild 0 1 0 window 1 cache 1;");
        long64.promise(99999);
        Check.is("stripeDeadline", long64.stripeDeadline(0), 1562);
        Check.is("stripeDeadline", long64.stripeDeadline(63), 99999);
    }

    private static void operationsHaveTheirDeadlines() {
        RebuildScheduler x = Check.loaded("disks 3 stripes 2 base 4 seek 0; rebuild 0 1 0 window 1 cache 1; tenant 0 100 0; slack 0;");
        x.promise(2);
        x.fail(2);
        x.promise(90);
        x.submit(1, 0, false, -1);
        x.submit(1, 3, false, -1);
        x.advance(1);
        Check.is("promoted by the promise of that time", x.chosen(0, 0), 2);
        x.advance(4);
        Check.is("the write has the deadline 45: it is weighted", x.chosen(0, 2), 1);
        Check.is("promoted", x.chosen(0, 0), 2);
        RebuildScheduler none = Check.loaded("disks 3 stripes 2 base 4 seek 0; rebuild 0 1 0 window 1 cache 1; tenant 0 100 0; slack 500;");
        none.fail(2);
        none.promise(2);
        none.advance(1);
        Check.is("none without a promise", none.chosen(0, 0), 0);
        Check.is("weighted", none.chosen(0, 2), 2);
    }

    private static void forecasts() {
        RebuildScheduler x = Check.loaded(SMALL);
        Check.is("no disk has failed", x.forecast(), -1);
        x.fail(2);
        Check.is("forecast", x.forecast(), 25);
        x.submit(1, 0, false, 2);
        x.submit(1, 0, false, 2);
        Check.is("two reads before", x.forecast(), 25);
        Check.trace(x, "at 2 1 writes 3 by 2; at 3 1 writes 3 by 3; at 4 1 reads 3 by 4; at 5 1 reads 4 by 5; at 70 1 reads 0;");
        int due = x.forecast();
        Check.is("forecast twice", x.forecast(), due);
        while (x.completedAt() == -1) {
            x.advance(1);
            Check.is("forecast", x.forecast(), due);
        }
        Check.is("completedAt", x.completedAt(), due);
        Check.is("the lines delay it", due > 25, true);
        x.advance(40);
        Check.is("complete already", x.forecast(), due);
    }

    private static void forecastChangesNothing() {
        RebuildScheduler x = Check.loaded(SMALL);
        Check.trace(x, "at 2 1 reads 4; at 3 1 writes 3;");
        x.submit(1, 0, false, -1);
        x.fail(2);
        x.advance(1);
        x.forecast();
        Check.is("now", x.now(), 1);
        Check.is("requestCount", x.requestCount(), 1);
        Check.is("traceLines", x.traceLines(), 2);
        Check.is("completedAt", x.completedAt(), -1);
        Check.is("rebuiltCount", x.rebuiltCount(), 0);
        Check.is("finishedAt", x.finishedAt(0), -1);
        Check.is("pending", x.pending(0), 1);
        Check.is("finished", x.finished(1), 0);
        Check.is("chosen", x.chosen(0, 2), 2);
        Check.is("tag", x.tag(1, 1, 1), 0);
        Check.is("queueLength", x.queueLength(1, 1), 1);
        Check.is("piggybackedReads", x.piggybackedReads() + x.savedReads() + x.cachedUnits(), 0);
        Check.is("busyTime", x.busyTime(0), 4);
        Check.is("busyUntil", x.busyUntil(0), 5);
        Check.is("isHeld", x.isHeld(0, 0), false);
        states(x, "100");
    }

    /** Lines that find 400 requests are lost in thought too, and the forecast heeds that. */
    private static void forecastLosesLines() {
        RebuildScheduler x = Check.loaded(SMALL);
        for (int i = 0; i < 399; i++) {
            x.submit(1, i % 6, i % 2 == 0, -1);
        }
        Check.trace(x, "at 2 1 writes 3 by 2; at 3 1 writes 3 by 3; at 4 1 reads 3 by 4;");
        x.fail(1);
        int due = x.forecast();
        Check.is("no line was lost yet", x.lostLines(), 0);
        Check.is("requestCount", x.requestCount(), 399);
        while (x.completedAt() == -1 && x.now() < 20000) {
            x.advance(1);
        }
        Check.is("two lines were lost", x.lostLines(), 2);
        Check.is("forecast", due, x.completedAt());
    }

    private static void forecastEnds() {
        // a read each 1000 ticks, then its write: complete at tick 20009
        RebuildScheduler x = Check.loaded("disks 3 stripes 21 base 4 seek 0; rebuild 0 1 1 window 8 cache 0;");
        x.fail(0);
        x.advance(8);
        Check.is("20001 ticks to go", x.forecast(), -1);
        x.advance(1);
        Check.is("20000 ticks to go", x.forecast(), 20009);
        RebuildScheduler last = Check.loaded("disks 3 stripes 1 base 4 seek 0; rebuild 0 1 0 window 8 cache 0; tenant 0 1 0;");
        for (int i = 0; i < 49; i++) {
            last.advance(2000);
        }
        last.advance(1990);
        last.fail(0);
        Check.is("complete at the last tick", last.forecast(), 99999);
        last.advance(9);
        Check.is("complete at the last tick", last.forecast(), 99999);
        RebuildScheduler over = Check.loaded("disks 3 stripes 1 base 4 seek 0; rebuild 0 1 0 window 8 cache 0; tenant 0 1 0;");
        for (int i = 0; i < 49; i++) {
            over.advance(2000);
        }
        over.advance(1991);
        over.fail(0);
        Check.is("complete one tick too late", over.forecast(), -1);
        over.advance(8);
        Check.is("no tick is left", over.forecast(), -1);
        Check.is("completedAt", over.completedAt(), -1);
    }

    private static void bounds() {
        RebuildScheduler x = Check.loaded("disks 3 stripes 3 base 4 seek 0; rebuild 300 1 0 window 1 cache 1; tenant 0 100 0;");
        Check.is("no disk has failed", x.bound(), -1);
        x.fail(2);
        Check.is("3 units: 10", x.bound(), 10);
        x.advance(5);
        Check.is("2 units: 7, stripe 0 is being written", x.bound(), 12);
        x.submit(1, 4, false, 5);
        x.advance(5);
        Check.is("disk 0 has 1 unit to read, disk 1 has 2", x.bound(), 17);
        x.setShare(0, 7, 1, 0);
        Check.is("2000 / 7 rounded up is 286", x.bound(), 296);
        x.setShare(0, 1, 1, 0);
        Check.is("2000 / 1", x.bound(), 2010);
        x.setShare(0, 0, 1, 0);
        Check.is("no reservation", x.bound(), -1);
        x.setShare(0, 1, 1, 0);
        x.advance(1000);
        Check.is("complete", x.completedAt() != -1, true);
        Check.is("nothing to read", x.bound(), 1010);
    }

    /** Each surviving disk counts, and neither the failed one nor the spare one. */
    private static void boundsOfAllDisks() {
        for (int failed = 0; failed < 3; failed++) {
            RebuildScheduler x = Check.loaded("disks 3 stripes 3 base 4 seek 0; rebuild 100 1 0 window 1 cache 9; tenant 0 100 0;");
            x.fail(failed);
            Check.is("3 units", x.bound(), 30);
            for (int unit = 0; unit < 6; unit++) {
                x.submit(1, unit, false, 0);
            }
            x.advance(20);
            int most = 0;
            for (int disk = 0; disk < 3; disk++) {
                int units = 0;
                for (int stripe = 0; stripe < 3; stripe++) {
                    units += disk != failed && x.stripeState(stripe) < 2 && !x.isHeld(disk, stripe) ? 1 : 0;
                }
                most = Math.max(most, units);
            }
            Check.is("bound", x.bound(), 20 + 10 * most);
        }
    }

    private static void refuse() {
        RebuildScheduler x = Check.loaded(SMALL);
        for (int wrong : new int[] {-1, 3, 64, Integer.MAX_VALUE, Integer.MIN_VALUE}) {
            Check.noElement("stripeState", () -> x.stripeState(wrong));
            Check.noElement("stripeDeadline", () -> x.stripeDeadline(wrong));
            Check.noElement("isHeld, disk", () -> x.isHeld(wrong, 0));
            Check.noElement("isHeld, stripe", () -> x.isHeld(0, wrong));
        }
        Check.is("isHeld", x.isHeld(2, 2), false);
    }
}

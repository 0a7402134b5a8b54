import java.util.Random;

/** The boundary cases of promises 38 to 47 and of the section REBUILD, sentence by sentence. */
public final class RebuildEdgesTest {
    // the units 0 to 5 are on the disks 1 2, 2 0, 0 1; the parity disks are 0 1 2
    private static final String SMALL = "disks 3 stripes 3 base 4 seek 0; rebuild 0 1 0 window 1 cache 1; tenant 0 100 0;";
    private static final int[] FAR = {Integer.MIN_VALUE, -2, -1, 64, 65, 400, Integer.MAX_VALUE};

    public static void main(String[] args) {
        noStateWithoutAFailure();
        noSuchStripe();
        noSuchDiskOrStripe();
        fewerThanWindowStripes();
        windowGreaterThanTheArray();
        unitsOfSurvivingDisksAlone();
        unitsAreNotHeldAnyMore();
        allUnitsHeldAtTheStart();
        cacheOfNone();
        cacheOf64Units();
        cacheIsFreedByAStart();
        heldUnitIsNotHeldTwice();
        writeOfAWaitingStripe();
        writeOfACollectingStripe();
        writeOfAWritingStripe();
        writeOfAUnitThatIsNotHeld();
        readsAreSavedFromTheQueue();
        completeWithAllStripes();
        deadlinesRoundDown();
        deadlinesAtTheEdgesOfTime();
        deadlinesWhenTheyAreQueued();
        noForecast();
        forecastOfACompleteRebuild();
        forecastOf20000Ticks();
        forecastUpToTheLastTick();
        forecastHeedsAllThatCounts();
        forecastHeedsTheLastOperation();
        forecastsOfManyStates();
        forecastOfTheLargestArray();
        nothingChangesByAForecast();
        noBound();
        boundRoundsUp();
        boundCountsUnitsToRead();
        boundOfEachSurvivingDisk();
        Check.end();
    }

    private static void states(RebuildScheduler x, String due) {
        StringBuilder got = new StringBuilder();
        for (int stripe = 0; stripe < x.stripeCount(); stripe++) {
            got.append(x.stripeState(stripe));
        }
        Check.is("the states at tick " + x.now(), got.toString(), due);
    }

    // ---- promises 38 to 40

    private static void noStateWithoutAFailure() {
        Check.about("0 waiting, 1 collecting, 2 writing, 3 rebuilt; -1 if no disk has failed");
        RebuildScheduler x = Check.loaded(SMALL);
        states(x, "-1-1-1");
        x.advance(50);
        states(x, "-1-1-1");
        x.fail(0);
        states(x, "100");
        x.advance(2000);
        states(x, "333");
        x.loadArray(Check.feed(x, SMALL));
        states(x, "-1-1-1");
    }

    private static void noSuchStripe() {
        Check.about("if there is no such stripe");
        RebuildScheduler x = Check.loaded(SMALL);
        RebuildScheduler one = Check.loaded(SMALL.replace("stripes 3", "stripes 1"));
        RebuildScheduler most = Check.loaded(SMALL.replace("stripes 3", "stripes 64"));
        Check.noElement("stripe 3 of 3", () -> x.stripeState(3));
        Check.noElement("stripe 3 of 3", () -> x.stripeDeadline(3));
        Check.noElement("stripe 1 of 1", () -> one.stripeState(1));
        Check.noElement("stripe 1 of 1", () -> one.stripeDeadline(1));
        Check.is("stripe 63 of 64", most.stripeState(63), -1);
        Check.is("stripe 63 of 64", most.stripeDeadline(63), -1);
        for (int far : FAR) {
            Check.noElement("stripeState " + far, () -> most.stripeState(far));
            Check.noElement("stripeDeadline " + far, () -> most.stripeDeadline(far));
        }
        x.fail(0);
        x.promise(9);
        Check.noElement("after a failure", () -> x.stripeState(3));
        Check.noElement("with a promise", () -> x.stripeDeadline(3));
    }

    private static void noSuchDiskOrStripe() {
        Check.about("if there is no such disk (0 to D - 1) or stripe");
        for (int disks = 3; disks <= 6; disks++) {
            int spare = disks;
            RebuildScheduler x = Check.loaded(SMALL.replace("disks 3", "disks " + disks));
            Check.is("no unit is held", x.isHeld(disks - 1, 2), false);
            Check.noElement("the spare disk", () -> x.isHeld(spare, 0));
            Check.noElement("stripe 3", () -> x.isHeld(0, 3));
            for (int far : FAR) {
                Check.noElement("disk " + far, () -> x.isHeld(far, 0));
                Check.noElement("stripe " + far, () -> x.isHeld(0, far));
            }
        }
    }

    // ---- the section REBUILD

    private static int count(RebuildScheduler x, int from, int to) {
        int stripes = 0;
        for (int stripe = 0; stripe < x.stripeCount(); stripe++) {
            stripes += x.stripeState(stripe) >= from && x.stripeState(stripe) <= to ? 1 : 0;
        }
        return stripes;
    }

    private static void fewerThanWindowStripes() {
        Check.about("as long as fewer than window stripes are collecting or writing, and there is a waiting stripe");
        for (int window = 1; window <= 8; window++) {
            RebuildScheduler x = Check.loaded("disks 4 stripes 20 base 3 seek 9; rebuild 0 1 0 window " + window + " cache 0;");
            x.fail(3);
            while (x.rebuiltCount() < 20 && x.now() < 2000) {
                Check.is("stripes of the window", count(x, 1, 2), Math.min(window, 20 - x.rebuiltCount()));
                for (int stripe = 1; stripe < 20; stripe++) {
                    boolean isInOrder = x.stripeState(stripe) == 0 || x.stripeState(stripe - 1) != 0;
                    Check.is("the lowest waiting one starts", isInOrder, true);
                }
                x.advance(1);
            }
            Check.is("all are rebuilt", x.rebuiltCount(), 20);
        }
    }

    private static void windowGreaterThanTheArray() {
        Check.about("and there is a waiting stripe");
        RebuildScheduler x = Check.loaded("disks 3 stripes 1 base 4 seek 0; rebuild 0 1 0 window 8 cache 64;");
        x.fail(1);
        states(x, "1");
        Check.is("a read of disk 0", x.queueLength(0, 0), 1);
        Check.is("none of the failed disk", x.queueLength(1, 0), 0);
        Check.is("a read of disk 2", x.queueLength(2, 0), 1);
        x.advance(5);
        states(x, "2");
        x.advance(4);
        states(x, "3");
        Check.is("complete", x.completedAt(), 9);
    }

    private static void unitsOfSurvivingDisksAlone() {
        Check.about("units of stripes on surviving disks can be held");
        for (int failed = 0; failed < 6; failed++) {
            RebuildScheduler x = Check.loaded("disks 6 stripes 4 base 4 seek 0; rebuild 0 1 0 window 1 cache 64; tenant 0 1 0;");
            x.fail(failed);
            for (int unit = 0; unit < 20; unit++) {
                x.submit(1, unit, false, 0);
            }
            for (int i = 0; i < 100; i++) {
                x.advance(1);
                for (int stripe = 0; stripe < 4; stripe++) {
                    Check.is("a unit of the failed disk", x.isHeld(failed, stripe), false);
                }
            }
            Check.is("complete", x.rebuiltCount(), 4);
        }
    }

    private static void unitsAreNotHeldAnyMore() {
        Check.about("When this write is finished, the stripe is rebuilt, and its units are not held any more");
        RebuildScheduler x = Check.loaded(SMALL);
        x.fail(0);
        x.advance(8);
        states(x, "200");
        Check.is("held while it is written", x.isHeld(1, 0) && x.isHeld(2, 0), true);
        x.advance(1);
        states(x, "310");
        Check.is("not held", x.isHeld(1, 0) || x.isHeld(2, 0), false);
        x.submit(1, 1, false, 9);
        x.advance(5);
        Check.is("a read of a rebuilt stripe does not hold it", x.isHeld(2, 0), false);
        Check.is("nor is it piggybacked", x.piggybackedReads() + x.savedReads() + x.cachedUnits(), 0);
    }

    private static void allUnitsHeldAtTheStart() {
        Check.about("If all units of a collecting stripe are held, it becomes writing at once");
        RebuildScheduler x = Check.loaded("disks 3 stripes 3 base 4 seek 0; rebuild 0 1 0 window 1 cache 4; tenant 0 100 0;");
        x.fail(0);
        // disk 1 has the parity of stripe 1: a degraded read of unit 3 reads both of its units
        x.submit(1, 3, false, 0);
        x.submit(1, 4, false, 1);
        x.advance(9);
        Check.is("four units of waiting stripes", x.cachedUnits(), 4);
        states(x, "100");
        x.advance(4);
        states(x, "200");
        x.advance(4);
        states(x, "320");
        Check.is("no read of stripe 1", x.queueLength(1, 0) + x.queueLength(2, 0), 0);
        Check.is("its write is chosen at the same tick", x.busyUntil(3), 21);
        Check.is("two are cached", x.cachedUnits(), 2);
        x.advance(4);
        states(x, "332");
        x.advance(4);
        states(x, "333");
        Check.is("completedAt", x.completedAt(), 25);
        Check.is("piggybackedReads", x.piggybackedReads(), 4);
        Check.is("busyTime of disk 1: stripe 0, and two for the tenant", x.busyTime(1), 12);
    }

    private static void cacheOfNone() {
        Check.about("fewer than cache units of waiting stripes are held (CACHE 0)");
        RebuildScheduler x = Check.loaded(SMALL.replace("cache 1", "cache 0"));
        x.fail(2);
        x.submit(1, 4, false, 0);
        x.submit(1, 5, false, 0);
        x.advance(9);
        Check.is("none is held", x.isHeld(0, 2) || x.isHeld(1, 2), false);
        Check.is("none is piggybacked", x.piggybackedReads() + x.cachedUnits(), 0);
        RebuildScheduler collecting = Check.loaded(SMALL.replace("cache 1", "cache 0"));
        collecting.fail(2);
        collecting.submit(1, 0, false, 0);
        collecting.advance(5);
        Check.is("a collecting stripe needs no cache", collecting.savedReads(), 1);
    }

    /** Reads and writes come one by one, so that it is plain which of them is the one too many. */
    private static void cacheOf64Units() {
        Check.about("fewer than cache units of waiting stripes are held (CACHE 64)");
        RebuildScheduler x = Check.loaded("disks 6 stripes 64 base 1 seek 0; rebuild 0 1 1 window 1 cache 64; tenant 0 100 0;");
        x.fail(0);
        x.advance(20);
        states(x, "31" + "0".repeat(62));
        int reads = 0;
        for (int unit = 10; reads < 66; unit++) {
            if (x.diskOf(unit) != 0) {
                x.submit(1, unit, false, -1);
                x.advance(2);
                reads++;
                Check.is("cachedUnits", x.cachedUnits(), Math.min(reads, 64));
                Check.is("piggybackedReads", x.piggybackedReads(), Math.min(reads, 64));
                Check.is("isHeld", x.isHeld(x.diskOf(unit), x.stripeOf(unit)), reads <= 64);
            }
        }
        x.submit(1, 10, true, -1);
        x.advance(2);
        Check.is("a write makes room for one", x.cachedUnits(), 63);
        x.submit(1, 300, false, -1);
        x.advance(2);
        Check.is("it is held", x.isHeld(x.diskOf(300), 60), true);
        x.submit(1, 301, false, -1);
        x.advance(2);
        Check.is("the next is not", x.cachedUnits(), 64);
        Check.is("piggybackedReads", x.piggybackedReads(), 65);
    }

    private static void cacheIsFreedByAStart() {
        Check.about("Returns the number of held units of waiting stripes");
        RebuildScheduler x = Check.loaded(SMALL);
        Check.is("without an array", new RebuildScheduler().cachedUnits(), 0);
        Check.is("no disk has failed", x.cachedUnits(), 0);
        x.fail(2);
        x.submit(1, 3, false, 0);
        x.advance(5);
        Check.is("disk 0 of stripe 1", x.cachedUnits(), 1);
        x.submit(1, 5, false, 5);
        x.advance(5);
        Check.is("the cache is full", x.isHeld(1, 2), false);
        while (x.stripeState(1) == 0) {
            x.advance(1);
        }
        states(x, "310");
        Check.is("stripe 1 has started", x.cachedUnits(), 0);
        Check.is("its unit is held", x.isHeld(0, 1), true);
        x.submit(1, 4, false, x.now());
        x.advance(5);
        Check.is("there is room again", x.isHeld(0, 2), true);
        Check.is("cachedUnits", x.cachedUnits(), 1);
        Check.is("piggybackedReads", x.piggybackedReads(), 2);
    }

    private static void heldUnitIsNotHeldTwice() {
        Check.about("and the unit is not held");
        RebuildScheduler x = Check.loaded(SMALL.replace("cache 1", "cache 2"));
        x.fail(2);
        x.submit(1, 4, false, 0);
        x.submit(1, 4, false, 0);
        x.submit(1, 4, false, 0);
        x.advance(13);
        Check.is("three reads", x.finished(1), 3);
        Check.is("one unit", x.cachedUnits(), 1);
        Check.is("piggybacked once", x.piggybackedReads(), 1);
    }

    private static void writeOfAWaitingStripe() {
        Check.about("it is not held any more if the stripe is waiting or collecting");
        RebuildScheduler x = Check.loaded(SMALL);
        x.fail(2);
        x.submit(1, 4, false, 0);
        x.submit(1, 4, true, 0);
        x.submit(1, 4, true, 0);
        x.advance(5);
        Check.is("held", x.isHeld(0, 2), true);
        x.advance(4);
        Check.is("written", x.isHeld(0, 2), false);
        Check.is("cachedUnits", x.cachedUnits(), 0);
        Check.is("no read of tenant 0 for stripe 2", x.chosen(0, 2), 1);
        x.advance(4);
        Check.is("written once more", x.cachedUnits(), 0);
        Check.is("piggybackedReads stays", x.piggybackedReads(), 1);
    }

    private static void writeOfACollectingStripe() {
        Check.about("if it is collecting, a read of tenant 0 for this unit is queued at once");
        RebuildScheduler x = Check.loaded(SMALL);
        x.fail(2);
        for (int i = 0; i < 4; i++) {
            x.submit(1, 5, false, i);  // keeps disk 1 from the rebuild's read
        }
        x.advance(5);
        Check.is("disk 0 is held", x.isHeld(0, 0), true);
        x.submit(1, 1, true, 5);       // the parity on disk 0
        x.submit(1, 3, false, 6);      // keeps disk 0 from a new read
        x.advance(4);
        Check.is("the tick before", x.queueLength(0, 0), 0);
        x.advance(1);
        Check.is("not held", x.isHeld(0, 0), false);
        Check.is("a read is queued", x.queueLength(0, 0), 1);
        Check.is("with the next P tag", x.tag(0, 0, 1), 1000000);
        states(x, "100");
        x.advance(7);
        Check.is("disk 1 is held", x.isHeld(1, 0), false);
        x.advance(1);
        Check.is("disk 0 is held again", x.isHeld(0, 0), true);
        Check.is("savedReads", x.savedReads(), 0);
    }

    private static void writeOfAWritingStripe() {
        Check.about("it is not held any more if the stripe is waiting or collecting (and held if it is writing)");
        RebuildScheduler x = Check.loaded(SMALL.replace("base 4", "base 50"));
        x.fail(2);
        x.advance(51);
        states(x, "200");
        x.submit(1, 0, true, -1);
        x.advance(49);
        Check.is("not yet written", x.pending(0), 2);
        Check.is("held", x.isHeld(0, 0) && x.isHeld(1, 0), true);
        RebuildScheduler slow = Check.loaded(SMALL.replace("window 1", "window 2"));
        slow.fail(2);
        slow.setShare(0, 0, 1, 1);
        slow.advance(9);
        states(slow, "321");
        slow.submit(1, 3, true, 9);
        slow.submit(1, 2, true, 9);
        slow.advance(20);
        Check.is("both units were written", slow.finished(1), 2);
        states(slow, "322");
        Check.is("held all the same", slow.isHeld(0, 1) && slow.isHeld(1, 1), true);
        Check.is("no read is queued", slow.queueLength(0, 0) + slow.queueLength(1, 0), 0);
    }

    private static void writeOfAUnitThatIsNotHeld() {
        Check.about("When a write is finished on a surviving disk and the unit of its stripe is held");
        RebuildScheduler x = Check.loaded(SMALL.replace("window 1", "window 3"));
        x.fail(2);
        x.submit(1, 4, true, 0);
        x.advance(5);
        states(x, "111");
        Check.is("no second read of stripe 2 is queued", x.queueLength(0, 0), 2);
        Check.is("cachedUnits", x.cachedUnits(), 0);
    }

    private static void readsAreSavedFromTheQueue() {
        Check.about("the read of tenant 0 for this unit is removed from its queue, and a read is saved");
        RebuildScheduler x = Check.loaded(SMALL);
        Check.is("without an array", new RebuildScheduler().savedReads(), 0);
        x.fail(2);
        x.submit(1, 0, false, 0);
        x.submit(1, 1, false, 0);
        x.advance(4);
        Check.is("none yet", x.savedReads(), 0);
        Check.is("in its queue", x.queueLength(0, 0) + x.queueLength(1, 0), 2);
        x.advance(1);
        Check.is("both disks", x.savedReads(), 2);
        Check.is("its queues are empty", x.queueLength(0, 0) + x.queueLength(1, 0), 0);
        states(x, "200");
        Check.is("the rebuild has read nothing", x.chosen(0, 0) + x.chosen(0, 1) + x.chosen(0, 2), 1);
        Check.is("piggybackedReads", x.piggybackedReads(), 0);
        x.advance(200);
        Check.is("the others were not saved", x.savedReads(), 2);
    }

    private static void completeWithAllStripes() {
        Check.about("the tick at which the rebuild was complete; -1 if it is not");
        Check.is("without an array", new RebuildScheduler().completedAt(), -1);
        RebuildScheduler x = Check.loaded(SMALL);
        Check.is("no disk has failed", x.completedAt(), -1);
        x.fail(2);
        x.advance(24);
        Check.is("two of three", x.rebuiltCount(), 2);
        Check.is("the tick before", x.completedAt(), -1);
        x.advance(1);
        Check.is("three of three", x.rebuiltCount(), 3);
        Check.is("complete", x.completedAt(), 25);
        x.advance(100);
        Check.is("for ever", x.completedAt(), 25);
        RebuildScheduler last = Check.loaded(SMALL.replace("stripes 3", "stripes 1"));
        Check.advanceTo(last, 99990);
        last.fail(0);
        last.advance(8);
        Check.is("the tick before the last", last.completedAt(), -1);
        last.advance(1);
        Check.is("at the last tick", last.completedAt(), 99999);
        RebuildScheduler over = Check.loaded(SMALL.replace("stripes 3", "stripes 1"));
        Check.advanceTo(over, 99991);
        over.fail(0);
        over.advance(8);
        Check.is("never", over.completedAt(), -1);
    }

    // ---- promise 45

    private static void deadlinesRoundDown() {
        Check.about("The deadline of a stripe is then t0 + (t1 - t0) * (number of the stripe + 1) / S, rounded down");
        RebuildScheduler x = Check.loaded(SMALL);
        x.advance(10);
        int[][] due = {{10, 10, 11}, {10, 11, 12}, {11, 12, 13}, {11, 12, 14}};
        for (int ticks = 1; ticks <= 4; ticks++) {
            x.promise(10 + ticks);
            for (int stripe = 0; stripe < 3; stripe++) {
                Check.is("stripe " + stripe + " of " + ticks + " ticks", x.stripeDeadline(stripe), due[ticks - 1][stripe]);
            }
        }
        RebuildScheduler one = Check.loaded(SMALL.replace("stripes 3", "stripes 1"));
        one.promise(77);
        Check.is("one stripe", one.stripeDeadline(0), 77);
    }

    private static void deadlinesAtTheEdgesOfTime() {
        Check.about("at tick t0 it was promised to be complete at tick t1 (at most 99999)");
        RebuildScheduler x = Check.loaded(SMALL.replace("stripes 3", "stripes 64"));
        Check.is("no promise", x.stripeDeadline(0), -1);
        x.promise(1);
        Check.is("stripe 62", x.stripeDeadline(62), 0);
        Check.is("stripe 63", x.stripeDeadline(63), 1);
        x.promise(99999);
        Check.is("stripe 0", x.stripeDeadline(0), 1562);
        Check.is("stripe 62", x.stripeDeadline(62), 98436);
        Check.is("stripe 63", x.stripeDeadline(63), 99999);
        Check.advanceTo(x, 99998);
        Check.is("it stays", x.stripeDeadline(0), 1562);
        x.promise(99999);
        Check.is("stripe 62", x.stripeDeadline(62), 99998);
        Check.is("stripe 63", x.stripeDeadline(63), 99999);
        x.promise(-1);
        Check.is("removed", x.stripeDeadline(63), -1);
    }

    private static void deadlinesWhenTheyAreQueued() {
        Check.about("the deadline of their stripe by the promise that exists when they are queued, and none without a promise");
        String text = "disks 3 stripes 2 base 4 seek 0; rebuild 0 1 1 window 1 cache 0; slack 0;";
        RebuildScheduler removed = Check.loaded(text);
        removed.promise(2);
        removed.fail(0);
        removed.promise(-1);
        removed.advance(1);
        Check.is("a promise that is removed stays with what is queued", removed.chosen(0, 0), 2);
        removed.advance(4);
        Check.is("the write has none", removed.chosen(0, 2), 1);
        RebuildScheduler later = Check.loaded(text);
        later.fail(0);
        later.promise(2);
        later.advance(1);
        Check.is("a later promise does not count", later.chosen(0, 2), 2);
        later.advance(4);
        Check.is("but for the write", later.chosen(0, 0), 1);
        RebuildScheduler edge = Check.loaded(text);
        edge.setShare(0, 0, 1, 0);
        edge.promise(4);
        edge.fail(0);
        edge.advance(1);
        Check.is("deadline 2 at tick 1", edge.chosen(0, 0), 0);
        Check.is("weighted", edge.chosen(0, 2), 2);
        RebuildScheduler jump = Check.loaded(text);
        jump.promise(800);
        jump.fail(0);
        jump.advance(2000);
        // stripe 0 is read and written at once by its L tags of 0; stripe 1 waits for its deadline of 800
        Check.is("promoted at its deadline", jump.completedAt(), 808);
    }

    // ---- promise 46

    private static void noForecast() {
        Check.about("-1 if it is not complete then, or no disk has failed");
        Check.is("without an array", new RebuildScheduler().forecast(), -1);
        RebuildScheduler x = Check.loaded(SMALL);
        Check.is("no disk has failed", x.forecast(), -1);
        x.promise(50);
        x.advance(10);
        Check.is("nor then", x.forecast(), -1);
        x.fail(0);
        Check.is("a disk has failed", x.forecast(), 35);
        x.loadArray(Check.feed(x, SMALL));
        Check.is("anew", x.forecast(), -1);
    }

    private static void forecastOfACompleteRebuild() {
        Check.about("(completedAt() if it is complete already)");
        RebuildScheduler x = Check.loaded(SMALL);
        x.fail(0);
        x.advance(24);
        Check.is("one tick to go", x.forecast(), 25);
        x.advance(1);
        Check.is("just complete", x.forecast(), 25);
        x.advance(2000);
        Check.is("complete", x.forecast(), 25);
        Check.advanceTo(x, 99999);
        Check.is("at the last tick", x.forecast(), 25);
    }

    private static void forecastOf20000Ticks() {
        Check.about("until the rebuild is complete, but at most 20000 ticks");
        // a read of each surviving disk each 1000 ticks, then its write
        RebuildScheduler x = Check.loaded("disks 3 stripes 64 base 4 seek 0; rebuild 0 1 1 window 8 cache 0;");
        x.fail(0);
        Check.is("far too long", x.forecast(), -1);
        Check.advanceTo(x, 43007);
        Check.is("20002 ticks", x.forecast(), -1);
        x.advance(1);
        Check.is("20001 ticks", x.forecast(), -1);
        x.advance(1);
        Check.is("20000 ticks", x.forecast(), 63009);
        x.advance(1);
        Check.is("19999 ticks", x.forecast(), 63009);
        Check.advanceTo(x, 63009);
        Check.is("complete", x.completedAt(), 63009);
    }

    private static void forecastUpToTheLastTick() {
        Check.about("and not beyond tick 99999");
        for (int tick = 99973; tick <= 99976; tick++) {
            RebuildScheduler x = Check.loaded(SMALL);
            Check.advanceTo(x, tick);
            x.fail(0);
            Check.is("failed at tick " + tick, x.forecast(), tick + 25 > 99999 ? -1 : tick + 25);
            Check.advanceTo(x, 99999);
            Check.is("at the last tick", x.forecast(), tick + 25 > 99999 ? -1 : tick + 25);
        }
    }

    /** Each of these changes what is to come, and a forecast that forgot it would be wrong. */
    private static void forecastHeedsAllThatCounts() {
        Check.about("lets ticks pass in thought, with the trace, until the rebuild is complete");
        String text = "disks 3 stripes 6 base 4 seek 9; rebuild 50 1 60 window 2 cache 2; tenant 90 9 95; tenant 0 5 0; slack 3;";
        for (int part = 0; part < 9; part++) {
            RebuildScheduler x = Check.loaded(text);
            x.submit(1, 0, false, -1);
            x.submit(2, 5, true, -1);
            if (part == 1) {
                x.promise(60);
            }
            x.fail(part % 3);
            if (part == 2) {
                x.promise(40);
            }
            x.advance(7);
            if (part == 3) {
                Check.trace(x, "at 9 1 reads 3 by 9; at 12 2 writes 4; at 12 1 writes 8 by 14; at 40 2 reads 11; at 70 1 writes 2 by 80;");
            }
            if (part == 4) {
                x.setShare(0, 0, 1, 3);
            }
            if (part == 5) {
                x.setShare(1, 0, 100, 0);
                x.setShare(0, 1, 1, 0);
            }
            for (int i = 0; i < 3 * part; i++) {
                x.submit(1 + i % 2, i * 5 % 12, i % 4 == 3, i % 3 == 0 ? 7 + i * 5 : -1);
            }
            x.advance(1 + part);
            follows("part " + part, x);
        }
    }

    /** The last request has an operation on the spare disk of six: the last place of all. */
    private static void forecastHeedsTheLastOperation() {
        Check.about("lets ticks pass in thought (with every operation that is queued)");
        RebuildScheduler x = Check.loaded("disks 6 stripes 2 base 9 seek 0; rebuild 0 100 0 window 1 cache 0; tenant 0 1 1;");
        x.fail(1);
        x.advance(19);
        states(x, "31");
        x.submit(1, 0, false, -1);
        x.submit(1, 0, false, -1);
        Check.is("both are on the spare disk", x.queueLength(6, 1), 2);
        x.advance(1);
        Check.is("the second waits for its L tag", x.queueLength(6, 1), 1);
        Check.is("forecast", x.forecast(), 38);
        follows("the last operation", x);
    }

    private static void forecastOfTheLargestArray() {
        Check.about("3 to 6 disks, 1 to 64 stripes, at most 5 other tenants, at most 400 requests");
        RebuildScheduler x = Check.loaded("disks 6 stripes 64 base 2 seek 1; rebuild 30 10 0 window 8 cache 64;"
                + "tenant 9 9 0; tenant 9 9 50; tenant 0 9 0; tenant 0 1 0; tenant 5 1 9; slack 500;");
        for (int i = 0; i < 395; i++) {
            x.submit(1 + i % 5, i * 7 % 320, i % 3 == 0, i % 4 == 0 ? i : -1);
        }
        Check.trace(x, "at 2 5 reads 319; at 3 4 writes 319; at 3 5 reads 0; at 4 5 writes 4; at 5 5 reads 8; at 6 1 reads 0;");
        x.advance(1);
        x.fail(5);
        x.promise(99999);
        follows("the largest array", x);
        Check.is("a line was lost", x.lostLines(), 1);
        Check.is("all stripes", x.rebuiltCount(), 64);
        Check.advanceTo(x, 12000);
        int finished = 0;
        for (int tenant = 1; tenant <= 5; tenant++) {
            finished += x.finished(tenant);
        }
        Check.is("all requests", finished, 400);
    }

    /** The forecast is what comes to pass if nothing else is asked for. */
    private static void follows(String what, RebuildScheduler x) {
        int due = x.forecast();
        int first = x.now();
        while (x.completedAt() == -1 && x.now() < first + 3000 && x.now() < 99999) {
            x.advance(1);
        }
        Check.is(what + ", forecast at tick " + first, due, x.completedAt());
    }

    private static void forecastsOfManyStates() {
        Check.about("Returns the tick at which the rebuild is complete");
        for (int seed = 0; seed < 60; seed++) {
            Random random = new Random(seed);
            RebuildScheduler x = Check.loaded("disks " + (3 + random.nextInt(4)) + " stripes " + (5 + random.nextInt(9))
                    + " base " + (1 + random.nextInt(6)) + " seek " + random.nextInt(40) + ";"
                    + "rebuild " + random.nextInt(60) + " " + (1 + random.nextInt(9)) + " " + (60 + random.nextInt(200))
                    + " window " + (1 + random.nextInt(4)) + " cache " + random.nextInt(9) + ";"
                    + "tenant " + random.nextInt(90) + " 20 " + (90 + random.nextInt(90)) + "; tenant 9 2 0; slack 9;");
            x.fail(random.nextInt(x.diskCount()));
            int units = x.stripeCount() * (x.diskCount() - 1);
            for (int i = 0; i < 25; i++) {
                int deadline = random.nextBoolean() ? -1 : x.now() + random.nextInt(90);
                x.submit(1 + random.nextInt(2), random.nextInt(units), random.nextInt(3) == 0, deadline);
                if (random.nextInt(9) == 0) {
                    x.promise(x.now() + 1 + random.nextInt(200));
                }
                if (random.nextInt(9) == 0) {
                    Check.trace(x, "at " + (x.now() + 5) + " 1 writes 2; at " + (x.now() + 30) + " 2 reads 9 by 99999;");
                }
                x.advance(1 + random.nextInt(4));
            }
            follows("seed " + seed, x);
        }
    }

    private static void nothingChangesByAForecast() {
        Check.about("Nothing changes");
        RebuildScheduler asked = Check.loaded(SMALL);
        RebuildScheduler other = Check.loaded(SMALL);
        for (RebuildScheduler x : new RebuildScheduler[] {asked, other}) {
            x.submit(1, 0, true, 9);
            x.submit(1, 3, false, -1);
            Check.trace(x, "at 3 1 reads 5; at 5 1 writes 0 by 9; at 20 1 reads 4;");
            x.promise(30);
            x.fail(1);
        }
        for (int i = 0; i < 40; i++) {
            asked.forecast();
            asked.forecast();
            asked.advance(1);
            other.advance(1);
            asked.forecast();
        }
        Check.is("all that can be asked", Snapshot.of(asked), Snapshot.of(other));
    }

    // ---- promise 47

    private static void noBound() {
        Check.about("-1 if no disk has failed or the reservation of the rebuild is 0");
        Check.is("without an array", new RebuildScheduler().bound(), -1);
        RebuildScheduler x = Check.loaded(SMALL.replace("rebuild 0", "rebuild 100"));
        Check.is("no disk has failed", x.bound(), -1);
        x.fail(0);
        Check.is("a disk has failed", x.bound(), 30);
        x.setShare(0, 0, 1, 0);
        Check.is("the reservation is 0", x.bound(), -1);
        x.setShare(0, 1, 1, 0);
        Check.is("the reservation is 1", x.bound(), 3000);
        x.loadArray(Check.feed(x, SMALL.replace("rebuild 0", "rebuild 100")));
        Check.is("anew", x.bound(), -1);
    }

    private static void boundRoundsUp() {
        Check.about("of 1000 * n / reservation, rounded up");
        int[][] cases = {{1, 3000}, {2, 1500}, {7, 429}, {999, 4}, {1000, 3}, {600, 5}, {750, 4}, {751, 4}, {749, 5}};
        for (int[] each : cases) {
            RebuildScheduler x = Check.loaded(SMALL.replace("rebuild 0", "rebuild " + each[0]));
            x.advance(17);
            x.fail(0);
            Check.is("3 units, reservation " + each[0], x.bound(), 17 + each[1]);
        }
        RebuildScheduler most = Check.loaded(SMALL.replace("rebuild 0", "rebuild 1").replace("stripes 3", "stripes 64"));
        Check.advanceTo(most, 99999);
        most.fail(0);
        Check.is("64 units at the last tick", most.bound(), 163999);
    }

    private static void boundCountsUnitsToRead() {
        Check.about("the number of stripes that are waiting or collecting and whose unit on this disk is not held");
        RebuildScheduler x = Check.loaded(SMALL.replace("rebuild 0", "rebuild 100").replace("cache 1", "cache 4"));
        x.fail(2);
        Check.is("three stripes", x.bound(), 30);
        x.advance(4);
        Check.is("a read that is served does not count less", x.bound(), 34);
        x.advance(1);
        Check.is("stripe 0 is being written", x.bound(), 25);
        x.advance(4);
        Check.is("stripe 0 is rebuilt", x.bound(), 29);
        x.advance(100);
        Check.is("complete: n is 0", x.bound(), 109);
        RebuildScheduler held = Check.loaded(SMALL.replace("rebuild 0", "rebuild 100").replace("cache 1", "cache 4"));
        held.fail(2);
        held.submit(1, 4, false, 0);
        held.submit(1, 5, false, 0);
        held.advance(5);
        Check.is("both units of stripe 2 are held", held.cachedUnits(), 2);
        Check.is("two stripes are left", held.bound(), 25);
        held.submit(1, 4, true, 5);
        held.advance(4);
        states(held, "200");
        Check.is("one stripe is left", held.bound(), 19);
        held.advance(3);
        Check.is("one stripe is left", held.bound(), 22);
        held.advance(1);
        Check.is("disk 0 has stripe 1 to read, and stripe 2 again as it was written", held.bound(), 33);
    }

    private static void boundOfEachSurvivingDisk() {
        Check.about("the greatest number, over all surviving disks");
        // one unit of a waiting stripe is not held, on a disk of its own each time
        for (int failed = 0; failed < 3; failed++) {
            for (int missing = 0; missing < 3; missing++) {
                if (missing == failed) {
                    continue;
                }
                RebuildScheduler x = Check.loaded("disks 3 stripes 12 base 1 seek 0; rebuild 0 1 1 window 1 cache 64; tenant 0 100 0;");
                x.fail(failed);
                x.advance(9);
                int before = count(x, 0, 1);
                for (int unit = 0; unit < 24; unit++) {
                    if (x.diskOf(unit) != missing && x.diskOf(unit) != failed) {
                        x.submit(1, unit, false, -1);
                    }
                }
                x.advance(40);
                boundOfUnitsToRead(x, failed, missing);
                Check.is("stripes that wait or collect", count(x, 0, 1), before);
            }
        }
    }

    private static void boundOfUnitsToRead(RebuildScheduler x, int failed, int missing) {
        int other = 3 - failed - missing;
        int[] units = new int[3];
        for (int stripe = 0; stripe < 12; stripe++) {
            for (int disk = 0; disk < 3; disk++) {
                units[disk] += x.stripeState(stripe) < 2 && !x.isHeld(disk, stripe) ? 1 : 0;
            }
        }
        Check.is("the disk that was not read has more to read", units[missing] > units[other], true);
        Check.is("it has units that are held, or all are to be read", units[missing] <= units[failed], true);
        x.setShare(0, 100, 1, 100);
        Check.is("bound", x.bound(), x.now() + 10 * units[missing]);
    }
}

/** Promises 1 to 6: a new object, the buffer, the two texts and their errors. */
public final class InputTest {
    private static final int SYNTAX = 1;
    private static final int RANGE = 2;
    private static final int LIMIT = 3;
    private static final String DISKS = "disks 3 stripes 4 base 4 seek 16;";
    private static final String REBUILD = "rebuild 100 10 0 window 2 cache 2;";
    private static final String ARRAY = DISKS + REBUILD + "tenant 0 50 0; tenant 200 25 500; slack 5;";

    public static void main(String[] args) {
        newObject();
        newObjectKnowsNothing();
        feeding();
        bytesInOrder();
        arrayLengths();
        arrayReplaces();
        arrayBeginsAnew();
        arrayKeepsOldOnError();
        arrayForms();
        arrayErrors();
        tenantErrors();
        traceLengths();
        traceReplaces();
        traceForms();
        traceErrors();
        Check.end();
    }

    private static void newObject() {
        RebuildScheduler x = new RebuildScheduler();
        Check.is("diskCount", x.diskCount(), 0);
        Check.is("stripeCount", x.stripeCount(), 0);
        Check.is("tenantCount", x.tenantCount(), 0);
        Check.is("now", x.now(), 0);
        Check.is("failedDisk", x.failedDisk(), -1);
        Check.is("requestCount", x.requestCount(), 0);
        Check.is("lostLines", x.lostLines(), 0);
        Check.is("traceLines", x.traceLines(), 0);
        Check.is("cachedUnits", x.cachedUnits(), 0);
        Check.is("rebuiltCount", x.rebuiltCount(), 0);
        Check.is("completedAt", x.completedAt(), -1);
        Check.is("savedReads", x.savedReads(), 0);
        Check.is("piggybackedReads", x.piggybackedReads(), 0);
        Check.is("forecast", x.forecast(), -1);
        Check.is("bound", x.bound(), -1);
        Check.is("errorCode", x.errorCode(), 0);
        Check.is("errorPosition", x.errorPosition(), -1);
    }

    private static void newObjectKnowsNothing() {
        RebuildScheduler x = new RebuildScheduler();
        Check.noElement("stripeOf", () -> x.stripeOf(0));
        Check.noElement("diskOf", () -> x.diskOf(0));
        Check.noElement("parityDisk", () -> x.parityDisk(0));
        Check.noElement("share", () -> x.share(0, 9));
        Check.noElement("submit", () -> x.submit(1, 0, false, -5));
        Check.noElement("fail", () -> x.fail(0));
        Check.noElement("setShare", () -> x.setShare(0, -1, 0, 0));
        Check.noElement("queueLength", () -> x.queueLength(0, 0));
        Check.noElement("tag", () -> x.tag(0, 0, 9));
        Check.noElement("serving", () -> x.serving(0));
        Check.noElement("busyUntil", () -> x.busyUntil(0));
        Check.noElement("position", () -> x.position(0));
        Check.noElement("busyTime", () -> x.busyTime(0));
        Check.noElement("behind", () -> x.behind(0, 0));
        Check.noElement("chosen", () -> x.chosen(0, 9));
        Check.noElement("finishedAt", () -> x.finishedAt(0));
        Check.noElement("pending", () -> x.pending(0));
        Check.noElement("finished", () -> x.finished(1));
        Check.noElement("totalLatency", () -> x.totalLatency(1));
        Check.noElement("worstLatency", () -> x.worstLatency(1));
        Check.noElement("late", () -> x.late(1));
        Check.noElement("stripeState", () -> x.stripeState(0));
        Check.noElement("isHeld", () -> x.isHeld(0, 0));
        Check.noElement("stripeDeadline", () -> x.stripeDeadline(0));
        Check.noState("advance", () -> x.advance(1));
        Check.noState("promise", () -> x.promise(1));
        Check.noState("promise(-1)", () -> x.promise(-1));
    }

    private static void feeding() {
        RebuildScheduler x = new RebuildScheduler();
        for (int i = 1; i <= 40; i++) {
            Check.is("feed", x.feed(i, i, i, i, i), 20 * i);
        }
        Check.noState("a 41st feed", () -> x.feed(0, 0, 0, 0, 0));
        Check.noArgument("nothing was appended", () -> x.loadArray(801));
        Check.noState("800 bytes", () -> x.loadArray(800));
        Check.is("the buffer is empty", x.feed(0, 0, 0, 0, 0), 20);
    }

    private static void bytesInOrder() {
        RebuildScheduler x = new RebuildScheduler();
        // "disks 3 stripes 4 ba", the first byte of a parameter is the most significant one
        x.feed(0x6469736b, 0x73203320, 0x73747269, 0x70657320, 0x34206261);
        Check.noState("the text ends too soon", () -> x.loadArray(17));
        Check.is("at its end", x.errorPosition(), 17);
        x.feed(0xff206469, 0, 0, 0, 0);
        Check.noState("a negative byte", () -> x.loadArray(20));
        Check.is("byte 255 is no letter", x.errorPosition(), 0);
    }

    private static void arrayLengths() {
        RebuildScheduler x = new RebuildScheduler();
        int length = Check.feed(x, "disks 9");
        Check.noState("an error", () -> x.loadArray(length));
        int filled = (Check.feed(x, ARRAY) + 19) / 20 * 20;
        Check.noArgument("length -1", () -> x.loadArray(-1));
        Check.noArgument("length too great", () -> x.loadArray(filled + 1));
        Check.noArgument("greatest length", () -> x.loadArray(Integer.MAX_VALUE));
        Check.is("errorCode stays", x.errorCode(), RANGE);
        Check.is("errorPosition stays", x.errorPosition(), 6);
        Check.is("the buffer stays, and all of it is read", x.loadArray(filled), 3);
        Check.is("errorCode", x.errorCode(), 0);
        Check.is("errorPosition", x.errorPosition(), -1);
        Check.noArgument("the buffer is empty", () -> x.loadArray(1));
        Check.noState("an empty text", () -> x.loadArray(0));
        Check.is("errorCode", x.errorCode(), SYNTAX);
        Check.is("errorPosition", x.errorPosition(), 0);
    }

    private static void arrayReplaces() {
        RebuildScheduler x = Check.loaded(ARRAY);
        Check.trace(x, "at 2 1 reads 0; at 900 1 reads 0;");
        x.submit(1, 0, true, 0);
        x.submit(2, 3, false, -1);
        x.promise(50);
        x.advance(5);
        x.fail(1);
        x.advance(9);
        x.setShare(1, 7, 7, 7);
        int length = Check.feed(x, "disks 4 stripes 2 base 1 seek 0; rebuild 10 1 0 window 1 cache 0; tenant 1 2 3;");
        Check.is("loadArray", x.loadArray(length), 2);
        Check.is("diskCount", x.diskCount(), 4);
        Check.is("stripeCount", x.stripeCount(), 2);
        Check.is("now", x.now(), 0);
        Check.is("failedDisk", x.failedDisk(), -1);
        Check.is("requestCount", x.requestCount(), 0);
        Check.is("traceLines", x.traceLines(), 0);
        Check.is("promise", x.promise(-1), -1);
        Check.is("share", x.share(1, 0), 1);
        Check.is("finished", x.finished(1), 0);
        Check.is("worstLatency", x.worstLatency(1), -1);
        Check.is("late", x.late(1), 0);
        for (int disk = 0; disk <= 4; disk++) {
            Check.is("serving", x.serving(disk), -1);
            Check.is("position", x.position(disk), 0);
            Check.is("busyTime", x.busyTime(disk), 0);
            Check.is("queueLength", x.queueLength(disk, 0) + x.queueLength(disk, 1), 0);
        }
        Check.is("chosen", x.chosen(0, 0) + x.chosen(0, 1) + x.chosen(0, 2), 0);
        Check.is("savedReads", x.savedReads() + x.piggybackedReads() + x.cachedUnits() + x.rebuiltCount(), 0);
        x.submit(1, 0, false, -1);
        Check.is("no tag of the old array is left", x.tag(1, 1, 1), 0);
    }

    /** An object that has lived answers as a new one does once it has a new array. */
    private static void arrayBeginsAnew() {
        RebuildScheduler used = Check.loaded("disks 6 stripes 9 base 3 seek 16; rebuild 9 1 20 window 2 cache 9;"
                + "tenant 5 1 900; tenant 5 50 0;");
        Check.trace(used, "at 2 1 reads 6; at 3 2 reads 29; at 4 1 reads 31 by 4; at 5 1 reads 40; at 999 1 reads 0;");
        used.promise(9000);
        used.fail(3);
        for (int unit = 0; unit < 45; unit += 4) {
            used.submit(1 + unit % 2, unit, unit % 3 == 0, unit % 5 == 0 ? 5 : -1);
        }
        used.advance(40);
        used.forecast();
        Check.is("units are held", used.cachedUnits() > 0, true);
        Check.is("stripes are rebuilt", used.rebuiltCount() > 0 && used.rebuiltCount() < 9, true);
        used.loadArray(Check.feed(used, ARRAY));
        sameLife(used, Check.loaded(ARRAY));
        Check.is("it was complete", used.completedAt() > 0, true);
        used.loadArray(Check.feed(used, ARRAY));
        sameLife(used, Check.loaded(ARRAY));
    }

    private static void sameLife(RebuildScheduler one, RebuildScheduler other) {
        same(one, other);
        for (RebuildScheduler x : new RebuildScheduler[] {one, other}) {
            x.submit(1, 0, false, 9);
            x.submit(2, 4, true, -1);
            x.submit(2, 7, false, -1);
            x.fail(1);
            x.submit(1, 3, false, 2);
        }
        for (int i = 0; i < 80; i++) {
            same(one, other);
            one.advance(1);
            other.advance(1);
        }
    }

    private static void same(RebuildScheduler one, RebuildScheduler other) {
        Check.is("forecast", one.forecast(), other.forecast());
        Check.is("bound", one.bound(), other.bound());
        Check.is("cachedUnits", one.cachedUnits(), other.cachedUnits());
        Check.is("rebuiltCount", one.rebuiltCount(), other.rebuiltCount());
        Check.is("completedAt", one.completedAt(), other.completedAt());
        Check.is("savedReads", one.savedReads(), other.savedReads());
        Check.is("piggybackedReads", one.piggybackedReads(), other.piggybackedReads());
        Check.is("stripeDeadline", one.stripeDeadline(3), other.stripeDeadline(3));
        for (int disk = 0; disk <= 3; disk++) {
            Check.is("serving", one.serving(disk), other.serving(disk));
            Check.is("busyUntil", one.busyUntil(disk), other.busyUntil(disk));
            Check.is("busyTime", one.busyTime(disk), other.busyTime(disk));
            Check.is("position", one.position(disk), other.position(disk));
            for (int tenant = 0; tenant < 3; tenant++) {
                Check.is("queueLength", one.queueLength(disk, tenant), other.queueLength(disk, tenant));
            }
        }
        for (int tenant = 0; tenant < 3; tenant++) {
            for (int way = 0; way < 3; way++) {
                Check.is("chosen", one.chosen(tenant, way), other.chosen(tenant, way));
            }
        }
        for (int tenant = 1; tenant < 3; tenant++) {
            Check.is("finished", one.finished(tenant), other.finished(tenant));
            Check.is("totalLatency", one.totalLatency(tenant), other.totalLatency(tenant));
            Check.is("worstLatency", one.worstLatency(tenant), other.worstLatency(tenant));
            Check.is("late", one.late(tenant), other.late(tenant));
        }
        for (int stripe = 0; stripe < 4; stripe++) {
            Check.is("stripeState", one.stripeState(stripe), other.stripeState(stripe));
            for (int disk = 0; disk < 3; disk++) {
                Check.is("isHeld", one.isHeld(disk, stripe), other.isHeld(disk, stripe));
            }
        }
    }

    private static void arrayKeepsOldOnError() {
        RebuildScheduler x = Check.loaded(ARRAY);
        x.submit(1, 0, false, -1);
        Check.trace(x, "at 900 1 reads 0;");
        x.advance(7);
        String wrong = "disks 4 stripes 2 base 1 seek 0; rebuild 10 1 0 window 1 cache 65; tenant 1 2 3;";
        int length = Check.feed(x, wrong);
        Check.noState("an error", () -> x.loadArray(length));
        Check.is("errorCode", x.errorCode(), RANGE);
        Check.is("errorPosition", x.errorPosition(), wrong.indexOf("65"));
        Check.is("diskCount", x.diskCount(), 3);
        Check.is("stripeCount", x.stripeCount(), 4);
        Check.is("tenantCount", x.tenantCount(), 3);
        Check.is("now", x.now(), 7);
        Check.is("requestCount", x.requestCount(), 1);
        Check.is("traceLines", x.traceLines(), 1);
        Check.is("share", x.share(0, 0), 100);
        Check.is("the buffer is emptied", x.feed(0, 0, 0, 0, 0), 20);
    }

    private static void arrayForms() {
        array("\n disks\n3 stripes 4 base 4 seek 16\n;\nrebuild 100 10 0 window 2 cache 2 ; ", 1);
        array("disks 6 stripes 64 base 50 seek 99;rebuild 1000 100 1000 window 8 cache 64;slack 500;", 1);
        array("disks 3 stripes 1 base 1 seek 0;rebuild 0 1 0 window 1 cache 0;slack 0;", 1);
        array("disks 00003 stripes 00001 base 01 seek 00;rebuild 00 01 00 window 1 cache 0;slack 00000;", 1);
        array(DISKS + REBUILD + "tenant 0 1 1;tenant 0 1 0;tenant 1 1 1;tenant 1000 1 1000;tenant 5 100 6;slack 1;", 6);
    }

    private static void array(String text, int tenants) {
        RebuildScheduler x = new RebuildScheduler();
        Check.is(text, x.loadArray(Check.feed(x, text)), tenants);
        Check.is(text, x.errorCode(), 0);
        Check.is(text, x.errorPosition(), -1);
    }

    /** The sign ^ marks the position of the error. */
    private static void arrayError(int code, String marked) {
        String text = marked.replace("^", "");
        RebuildScheduler x = new RebuildScheduler();
        int length = Check.feed(x, text);
        Check.noState(marked, () -> x.loadArray(length));
        Check.is(marked, x.errorCode(), code);
        Check.is(marked, x.errorPosition(), marked.indexOf('^'));
        Check.is("no array of " + marked, x.diskCount(), 0);
    }

    private static void arrayErrors() {
        arrayError(SYNTAX, "^");
        arrayError(SYNTAX, " \n ^");
        arrayError(SYNTAX, "^;");
        arrayError(SYNTAX, "^3");
        arrayError(SYNTAX, "^disk 3 stripes 4");
        arrayError(SYNTAX, "^diskss 3 stripes 4");
        arrayError(SYNTAX, "^Disks 3 stripes 4");
        arrayError(SYNTAX, "^disksz 3 stripes 4");
        arrayError(SYNTAX, "^asks 3 stripes 4");
        arrayError(SYNTAX, "^misks 3 stripes 4");
        arrayError(SYNTAX, "disks 3 ^stripez 4");
        arrayError(SYNTAX, "disks^`3 stripes");
        arrayError(SYNTAX, "disks^{3 stripes");
        arrayError(SYNTAX, "disks 3^/stripes");
        arrayError(SYNTAX, "disks 3^: stripes");
        arrayError(RANGE, "disks ^90 stripes");
        arrayError(SYNTAX, " ^\tdisks 3 stripes 4");
        arrayError(SYNTAX, "disks^");
        arrayError(SYNTAX, "disks  ^");
        arrayError(SYNTAX, "disks^3 stripes");
        arrayError(SYNTAX, "disks^9 stripes");
        arrayError(SYNTAX, "disks ^three");
        arrayError(SYNTAX, "disks ^;");
        arrayError(SYNTAX, "disks^-3");
        arrayError(SYNTAX, "disks ^000003 stripes");
        arrayError(SYNTAX, "disks ^999999999999999999999999 stripes");
        arrayError(SYNTAX, "disks 3^stripes 4");
        arrayError(RANGE, "disks ^2 stripes 4");
        arrayError(RANGE, "disks ^7 stripes 4");
        arrayError(RANGE, "disks ^99999stripes 4");
        arrayError(SYNTAX, "disks 3 stripes 4 ^; base");
        arrayError(SYNTAX, "disks 3 stripes 4^\r base");
        arrayError(RANGE, "disks 3 stripes ^0 base");
        arrayError(RANGE, "disks 3 stripes ^65 base");
        arrayError(RANGE, "disks 3 stripes 4 base ^0");
        arrayError(RANGE, "disks 3 stripes 4 base ^51");
        arrayError(RANGE, "disks 3 stripes 4 base 4 seek ^100;");
        arrayError(SYNTAX, "disks 3 stripes 4 base 4 seek 99^");
        arrayError(SYNTAX, DISKS + "^; rebuild");
        arrayError(SYNTAX, DISKS + " ^tenant 0 1 0;");
        arrayError(RANGE, DISKS + "rebuild ^1001 1 0");
        arrayError(RANGE, DISKS + "rebuild 1000 ^0 0");
        arrayError(RANGE, DISKS + "rebuild 1000 ^101 0");
        arrayError(RANGE, DISKS + "rebuild 1000 100 ^999 window");
        arrayError(RANGE, DISKS + "rebuild 2 100 ^1 window");
        arrayError(RANGE, DISKS + "rebuild 0 100 ^1001 window");
        arrayError(RANGE, DISKS + "rebuild 1 1 1 window ^0");
        arrayError(RANGE, DISKS + "rebuild 1 1 1 window ^9");
        arrayError(RANGE, DISKS + "rebuild 1 1 1 window 8 cache ^65;");
        arrayError(SYNTAX, DISKS + "rebuild 1 1 1 cache 64 window 8;".replace("cache", "^cache"));
        arrayError(SYNTAX, DISKS + "rebuild 1 1 1 window 8 cache 64 ^");
        arrayError(SYNTAX, DISKS + REBUILD + "slack 5^");
        arrayError(RANGE, DISKS + REBUILD + "slack ^501;");
        arrayError(SYNTAX, DISKS + REBUILD + "slack 5; ^slack 5;");
        arrayError(SYNTAX, DISKS + REBUILD + "slack 5; ^tenant 0 1 0;");
        arrayError(SYNTAX, DISKS + REBUILD + "^;");
        arrayError(SYNTAX, DISKS + REBUILD + "^rebuild");
        arrayError(SYNTAX, DISKS + REBUILD + "^\u0000");
    }

    private static void tenantErrors() {
        String five = "tenant 0 1 0;tenant 0 1 0;tenant 0 1 0;tenant 0 1 0;tenant 0 1 0;";
        arrayError(SYNTAX, DISKS + REBUILD + "tenant 0 1^;");
        arrayError(RANGE, DISKS + REBUILD + "tenant 9 1 ^8;");
        arrayError(SYNTAX, DISKS + REBUILD + "tenant 9 1 9 ^9;");
        arrayError(SYNTAX, DISKS + REBUILD + "tenant 9 1 9;^tenants");
        arrayError(LIMIT, DISKS + REBUILD + five + "^tenant 0 1 0;");
        arrayError(LIMIT, DISKS + REBUILD + five + " ^tenant#");
        arrayError(SYNTAX, DISKS + REBUILD + five + "^tenan");
        arrayError(SYNTAX, DISKS + REBUILD + five + "slack 5;^tenant 0 1 0;");
    }

    private static void traceLengths() {
        RebuildScheduler x = new RebuildScheduler();
        Check.feed(x, "disks 9");
        Check.noState("an error", () -> x.loadArray(7));
        Check.feed(x, "at 1 1 reads 0;");
        Check.noArgument("length first", () -> x.loadTrace(21));
        Check.noState("no array", () -> x.loadTrace(15));
        Check.is("errorCode stays", x.errorCode(), RANGE);
        Check.is("errorPosition stays", x.errorPosition(), 6);
        Check.noArgument("but the buffer is emptied", () -> x.loadTrace(15));
        x.loadArray(Check.feed(x, ARRAY));
        Check.feed(x, "at 1 1 reads z;");
        Check.noState("an error", () -> x.loadTrace(15));
        Check.is("errorCode", x.errorCode(), SYNTAX);
        Check.is("errorPosition", x.errorPosition(), 13);
        Check.is("the buffer is emptied", x.feed(0x61742032, 0x20312072, 0x65616473, 0x20373b20, 0x20202020), 20);
        Check.noArgument("length -1", () -> x.loadTrace(-1));
        Check.noArgument("length 21", () -> x.loadTrace(21));
        Check.is("errorCode stays", x.errorCode(), SYNTAX);
        Check.is("the buffer stays", x.loadTrace(20), 1);
        Check.is("errorCode", x.errorCode(), 0);
        Check.is("errorPosition", x.errorPosition(), -1);
        Check.is("an empty trace", x.loadTrace(0), 0);
        Check.is("replaces the old one", x.traceLines(), 0);
    }

    private static void traceReplaces() {
        RebuildScheduler x = Check.loaded(ARRAY);
        Check.is("lines", Check.trace(x, "at 1 1 reads 0; at 3 1 reads 1; at 9 1 reads 2;"), 3);
        x.advance(3);
        Check.is("two came", x.requestCount(), 2);
        Check.is("one is still to come", x.traceLines(), 1);
        int length = Check.feed(x, "at 9 1 reads 2; at 8 1 reads 2;");
        Check.noState("an error", () -> x.loadTrace(length));
        Check.is("the old one stays", x.traceLines(), 1);
        Check.is("lines", Check.trace(x, "at 5 2 writes 4 by 77; at 7 1 reads 1;"), 2);
        x.advance(6);
        Check.is("the old line is gone", x.requestCount(), 4);
        Check.is("none is to come", x.traceLines(), 0);
    }

    private static void traceForms() {
        RebuildScheduler x = Check.loaded(ARRAY);
        Check.is("blanks alone", Check.trace(x, " \n "), 0);
        Check.is("edges", Check.trace(x, "at 1 1 reads 0 by 1;at 1 2 writes 7 by 99999;\nat\n99999 1 reads 0;"), 3);
        StringBuilder most = new StringBuilder();
        for (int i = 0; i < 53; i++) {
            most.append("at 1 1 reads 0;");
        }
        Check.is("as many as 800 bytes can hold", Check.trace(x, most.toString()), 53);
        x.advance(1);
        Check.is("all at one tick", x.requestCount(), 53);
    }

    private static void traceError(int code, String marked) {
        String text = marked.replace("^", "");
        RebuildScheduler x = Check.loaded(ARRAY);
        x.advance(10);
        int length = Check.feed(x, text);
        Check.noState(marked, () -> x.loadTrace(length));
        Check.is(marked, x.errorCode(), code);
        Check.is(marked, x.errorPosition(), marked.indexOf('^'));
        Check.is("no trace of " + marked, x.traceLines(), 0);
    }

    private static void traceErrors() {
        traceError(SYNTAX, "^;");
        traceError(SYNTAX, "^a 11 1 reads 0;");
        traceError(SYNTAX, "at^11 1 reads 0;");
        traceError(RANGE, "at ^10 1 reads 0;");
        traceError(SYNTAX, "at ^100000 1 reads 0;");
        traceError(RANGE, "at 11 ^0 reads 0;");
        traceError(RANGE, "at 11 ^3 reads 0;");
        traceError(SYNTAX, "at 11 2^reads 0;");
        traceError(SYNTAX, "at 11 2 ^read 0;");
        traceError(SYNTAX, "at 11 2 reads^0;");
        traceError(RANGE, "at 11 2 reads ^8;");
        traceError(SYNTAX, "at 11 2 reads 7^");
        traceError(SYNTAX, "at 11 2 reads 7 ^at 11 2 reads 7;");
        traceError(SYNTAX, "at 11 2 reads 7 by^;");
        traceError(RANGE, "at 11 2 reads 7 by ^10;");
        traceError(SYNTAX, "at 11 2 reads 7 by ^100000;");
        traceError(SYNTAX, "at 11 2 reads 7 by 11 ^by 11;");
        traceError(RANGE, "at 12 2 reads 7; at ^11 2 reads 7;");
        traceError(SYNTAX, "at 12 2 reads 7; at 12 1 writes 0;^disks");
        RebuildScheduler lonely = Check.loaded(DISKS + REBUILD);
        int length = Check.feed(lonely, "at 1 1 reads 0;");
        Check.noState("no tenant from 1 on", () -> lonely.loadTrace(length));
        Check.is("is out of range", lonely.errorCode(), RANGE);
        Check.is("at the tenant", lonely.errorPosition(), 5);
    }
}

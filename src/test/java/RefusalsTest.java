import java.util.ArrayList;
import java.util.List;
import java.util.NoSuchElementException;

/**
 * Each call that the document refuses, on an object in the midst of its life: it throws what is
 * listed first, and the object goes on like one that was never asked.
 */
public final class RefusalsTest {
    private static final String ARRAY = "disks 3 stripes 6 base 4 seek 9; rebuild 50 5 0 window 2 cache 2;"
            + "tenant 100 9 0; tenant 0 5 200; slack 6;";

    interface Refused {
        void on(RebuildScheduler x);
    }

    private static final class Refusal {
        final String name;
        final Class<? extends RuntimeException> due;
        final Refused call;

        Refusal(String name, Class<? extends RuntimeException> due, Refused call) {
            this.name = name;
            this.due = due;
            this.call = call;
        }
    }

    private static final List<Refusal> ALL = new ArrayList<>();

    public static void main(String[] args) {
        Check.about("If several exceptions apply to a call, the one that is listed first in its description is thrown");
        changes();
        tenants();
        disks();
        stripesAndRequests();
        for (Refusal refusal : ALL) {
            changesNothing(refusal);
        }
        allTogether();
        texts();
        Check.end();
    }

    private static void noElement(String name, Refused call) {
        ALL.add(new Refusal(name, NoSuchElementException.class, call));
    }

    private static void noArgument(String name, Refused call) {
        ALL.add(new Refusal(name, IllegalArgumentException.class, call));
    }

    private static void noState(String name, Refused call) {
        ALL.add(new Refusal(name, IllegalStateException.class, call));
    }

    private static void changes() {
        noArgument("loadArray(-1)", x -> x.loadArray(-1));
        noArgument("loadArray(21)", x -> x.loadArray(21));
        noArgument("loadTrace(-1)", x -> x.loadTrace(-1));
        noArgument("loadTrace(21)", x -> x.loadTrace(21));
        noElement("submit, tenant 0", x -> x.submit(0, 0, false, -1));
        noElement("submit, tenant 3", x -> x.submit(3, 0, true, -1));
        noElement("submit, unit 12", x -> x.submit(1, 12, false, -1));
        noElement("submit, unit -1 and deadline -2", x -> x.submit(1, -1, false, -2));
        noArgument("submit, deadline -2", x -> x.submit(1, 0, false, -2));
        noArgument("submit, deadline 11", x -> x.submit(2, 11, true, 11));
        noArgument("submit, deadline 100000", x -> x.submit(2, 11, true, 100000));
        noElement("fail(3), a disk has failed too", x -> x.fail(3));
        noElement("fail(-1), a disk has failed too", x -> x.fail(-1));
        noState("fail(0)", x -> x.fail(0));
        noState("fail(1)", x -> x.fail(1));
        noState("fail(2)", x -> x.fail(2));
        noArgument("advance(0)", x -> x.advance(0));
        noArgument("advance(-1)", x -> x.advance(-1));
        noArgument("advance(2001)", x -> x.advance(2001));
        noArgument("promise(12)", x -> x.promise(12));
        noArgument("promise(0)", x -> x.promise(0));
        noArgument("promise(-2)", x -> x.promise(-2));
        noArgument("promise(100000)", x -> x.promise(100000));
        noElement("setShare, tenant 3 and weight 0", x -> x.setShare(3, 1, 0, 1));
        noElement("setShare, tenant -1", x -> x.setShare(-1, 1, 1, 1));
        noArgument("setShare, reservation 1001", x -> x.setShare(0, 1001, 1, 0));
        noArgument("setShare, reservation -1", x -> x.setShare(0, -1, 1, 0));
        noArgument("setShare, weight 0", x -> x.setShare(1, 7, 0, 7));
        noArgument("setShare, weight 101", x -> x.setShare(1, 7, 101, 7));
        noArgument("setShare, limit 6", x -> x.setShare(2, 7, 1, 6));
        noArgument("setShare, limit 1001", x -> x.setShare(2, 7, 1, 1001));
        noArgument("setShare, limit -1", x -> x.setShare(2, 0, 1, -1));
    }

    private static void tenants() {
        for (int tenant : new int[] {-1, 3, Integer.MAX_VALUE}) {
            noElement("share " + tenant, x -> x.share(tenant, 3));
            noElement("chosen " + tenant, x -> x.chosen(tenant, 3));
            noElement("queueLength " + tenant, x -> x.queueLength(0, tenant));
            noElement("behind " + tenant, x -> x.behind(0, tenant));
            noElement("tag " + tenant, x -> x.tag(0, tenant, 3));
        }
        for (int tenant : new int[] {-1, 0, 3, Integer.MIN_VALUE}) {
            noElement("finished " + tenant, x -> x.finished(tenant));
            noElement("totalLatency " + tenant, x -> x.totalLatency(tenant));
            noElement("worstLatency " + tenant, x -> x.worstLatency(tenant));
            noElement("late " + tenant, x -> x.late(tenant));
        }
        for (int what : new int[] {-1, 3, Integer.MIN_VALUE}) {
            noArgument("share, what " + what, x -> x.share(0, what));
            noArgument("chosen, way " + what, x -> x.chosen(0, what));
            noArgument("tag, what " + what, x -> x.tag(0, 1, what));
            noElement("tag of the failed disk's empty queue, what " + what, x -> x.tag(1, 0, what));
        }
    }

    private static void disks() {
        for (int disk : new int[] {-1, 4, Integer.MAX_VALUE, Integer.MIN_VALUE}) {
            noElement("queueLength " + disk, x -> x.queueLength(disk, 0));
            noElement("behind " + disk, x -> x.behind(disk, 0));
            noElement("tag " + disk, x -> x.tag(disk, 0, 0));
            noElement("serving " + disk, x -> x.serving(disk));
            noElement("busyUntil " + disk, x -> x.busyUntil(disk));
            noElement("position " + disk, x -> x.position(disk));
            noElement("busyTime " + disk, x -> x.busyTime(disk));
            noElement("isHeld " + disk, x -> x.isHeld(disk, 0));
        }
        noElement("isHeld of the spare disk", x -> x.isHeld(3, 0));
    }

    private static void stripesAndRequests() {
        for (int stripe : new int[] {-1, 6, Integer.MAX_VALUE, Integer.MIN_VALUE}) {
            noElement("parityDisk " + stripe, x -> x.parityDisk(stripe));
            noElement("stripeState " + stripe, x -> x.stripeState(stripe));
            noElement("stripeDeadline " + stripe, x -> x.stripeDeadline(stripe));
            noElement("isHeld " + stripe, x -> x.isHeld(0, stripe));
        }
        for (int unit : new int[] {-1, 12, Integer.MAX_VALUE, Integer.MIN_VALUE}) {
            noElement("stripeOf " + unit, x -> x.stripeOf(unit));
            noElement("diskOf " + unit, x -> x.diskOf(unit));
            noElement("finishedAt " + unit, x -> x.finishedAt(unit));
            noElement("pending " + unit, x -> x.pending(unit));
        }
    }

    /** At tick 12: disk 1 has failed, there are a promise, a trace, 12 requests, and 20 bytes in the buffer. */
    private static RebuildScheduler inMidLife() {
        RebuildScheduler x = Check.loaded(ARRAY);
        x.submit(2, 4, false, -1);
        x.promise(70);
        Check.trace(x, "at 3 1 reads 7; at 5 2 writes 0 by 9; at 30 1 reads 2; at 40 2 writes 11;");
        x.advance(4);
        x.fail(1);
        x.advance(8);
        for (int i = 0; i < 9; i++) {
            x.submit(1 + i % 2, i, i % 3 == 0, i % 2 == 0 ? 20 + i : -1);
        }
        Check.noState("an error, so that errorCode() is not 0", () -> x.loadArray(0));
        x.feed(0x20202020, 0x20202020, 0x20202020, 0x20202020, 0x20202020);
        return x;
    }

    private static void goOn(RebuildScheduler x) {
        x.advance(3);
        x.submit(1, 5, true, 30);
        x.advance(40);
    }

    private static void changesNothing(Refusal refusal) {
        RebuildScheduler asked = inMidLife();
        RebuildScheduler other = inMidLife();
        Check.raises(refusal.name, refusal.due, () -> refusal.call.on(asked));
        Check.is("all that can be asked after " + refusal.name, Snapshot.of(asked), Snapshot.of(other));
        goOn(asked);
        goOn(other);
        Check.is("and later, after " + refusal.name, Snapshot.of(asked), Snapshot.of(other));
        Check.is("the buffer after " + refusal.name, asked.feed(0, 0, 0, 0, 0), 40);
    }

    private static void allTogether() {
        RebuildScheduler asked = inMidLife();
        RebuildScheduler other = inMidLife();
        for (Refusal refusal : ALL) {
            Check.raises(refusal.name, refusal.due, () -> refusal.call.on(asked));
        }
        goOn(asked);
        goOn(other);
        Check.is("after all of them", Snapshot.of(asked), Snapshot.of(other));
    }

    private static void texts() {
        Check.about("if the text has an error; then only the buffer, errorCode() and errorPosition() change");
        String[] wrong = {"", "disks", ARRAY + "tenant", ARRAY.replace("disks 3", "disks 7"),
            ARRAY.replace("; slack", "; tenant 0 1 0; tenant 0 1 0; tenant 0 1 0; tenant 0 1 0; slack")};
        for (String text : wrong) {
            wrongText("loadArray", text);
        }
        String[] wrongLines = {"at", "at 12 1 reads 0;", "at 13 1 reads 0; at 13 3 reads 0;", "at 13 1 reads 0; at 13 1 writes 12;"};
        for (String text : wrongLines) {
            wrongText("loadTrace", text);
        }
    }

    private static void wrongText(String method, String text) {
        RebuildScheduler asked = inMidLife();
        RebuildScheduler other = inMidLife();
        Check.noState("the buffer is emptied", () -> asked.loadTrace(Check.feed(asked, "#") + 20));
        int length = Check.feed(asked, text);
        Check.noState(method + " of " + text, () -> {
            if (method.equals("loadArray")) {
                asked.loadArray(length);
            } else {
                asked.loadTrace(length);
            }
        });
        Check.is("after " + text, Snapshot.withoutErrors(asked), Snapshot.withoutErrors(other));
        Check.is("the buffer after " + text, asked.feed(0, 0, 0, 0, 0), 20);
        goOn(asked);
        goOn(other);
        Check.is("later, after " + text, Snapshot.withoutErrors(asked), Snapshot.withoutErrors(other));
    }
}

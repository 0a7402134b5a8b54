/** All that can be asked of an object without changing it, as one text. */
final class Snapshot {
    private final RebuildScheduler x;
    private final StringBuilder all = new StringBuilder();

    private Snapshot(RebuildScheduler x) {
        this.x = x;
    }

    static String of(RebuildScheduler x) {
        Snapshot s = new Snapshot(x);
        s.add("error", x.errorCode(), x.errorPosition());
        return s.all + withoutErrors(x);
    }

    /** For calls that may change errorCode() and errorPosition() and nothing else. */
    static String withoutErrors(RebuildScheduler x) {
        Snapshot s = new Snapshot(x);
        s.addCounts();
        s.addTenants();
        s.addDisks();
        s.addStripes();
        s.addRequests();
        return s.all.toString();
    }

    private void add(String what, long... answers) {
        all.append(what);
        for (long answer : answers) {
            all.append(' ').append(answer);
        }
        all.append('\n');
    }

    private void addCounts() {
        add("array", x.diskCount(), x.stripeCount(), x.tenantCount());
        add("time", x.now(), x.failedDisk(), x.requestCount(), x.lostLines(), x.traceLines());
        add("rebuild", x.cachedUnits(), x.rebuiltCount(), x.completedAt(), x.savedReads(), x.piggybackedReads());
        add("forecast", x.forecast(), x.bound());
    }

    private void addTenants() {
        for (int t = 0; t < x.tenantCount(); t++) {
            add("tenant " + t, x.share(t, 0), x.share(t, 1), x.share(t, 2), x.chosen(t, 0), x.chosen(t, 1), x.chosen(t, 2));
            if (t > 0) {
                add("requests of " + t, x.finished(t), x.totalLatency(t), x.worstLatency(t), x.late(t));
            }
        }
    }

    private void addDisks() {
        for (int d = 0; d < x.diskCount() + (x.diskCount() > 0 ? 1 : 0); d++) {
            add("disk " + d, x.serving(d), x.busyUntil(d), x.position(d), x.busyTime(d));
            for (int t = 0; t < x.tenantCount(); t++) {
                add("queue " + d + " " + t, x.queueLength(d, t), x.behind(d, t));
                if (x.queueLength(d, t) > 0) {
                    add("tags", x.tag(d, t, 0), x.tag(d, t, 1), x.tag(d, t, 2));
                }
            }
        }
    }

    private void addStripes() {
        for (int s = 0; s < x.stripeCount(); s++) {
            add("stripe " + s, x.stripeState(s), x.stripeDeadline(s), x.parityDisk(s));
            for (int d = 0; d < x.diskCount(); d++) {
                all.append(x.isHeld(d, s) ? 'h' : '.');
            }
            all.append('\n');
        }
    }

    private void addRequests() {
        for (int r = 0; r < x.requestCount(); r++) {
            add("request " + r, x.finishedAt(r), x.pending(r));
        }
    }
}

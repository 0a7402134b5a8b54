import java.util.ArrayList;
import java.util.Arrays;
import java.util.List;
import java.util.NoSuchElementException;
import java.util.regex.Matcher;
import java.util.regex.Pattern;

/**
 * The document once more, written as plainly as possible and without a thought for speed: every tick
 * passes one by one, and a forecast repeats the whole life of the object on a new one. RandomRunsTest
 * compares the class with it.
 */
final class Model {
    static final class Op {
        int tenant;
        int disk;
        int stripe;
        boolean write;
        int deadline;
        Req request;
        Long r;
        long p;
        long l;
    }

    static final class Req {
        int tenant;
        int stripe;
        boolean write;
        int deadline;
        int from;
        int pending;
        int end = -1;
    }

    static final class Line {
        int tick;
        int tenant;
        int unit;
        boolean write;
        int deadline = -1;
    }

    static final class Token {
        String text;
        int at;
        boolean bad;
    }

    static final class TextError extends RuntimeException {
        private static final long serialVersionUID = 1L;
        final int code;
        final int position;

        TextError(int code, int position) {
            this.code = code;
            this.position = position;
        }
    }

    interface Change {
        void on(Model m);
    }

    private final List<Change> past = new ArrayList<>();
    private StringBuilder buffer = new StringBuilder();
    private int code = 0;
    private int errorAt = -1;

    private int[] numbers = null; // disks, stripes, base, seek, window, cache, slack
    private List<int[]> shares = new ArrayList<>();
    private int now;
    private List<Line> lines = new ArrayList<>();
    private int lost;
    private List<Req> requests = new ArrayList<>();
    private List<List<List<Op>>> queues;
    private Long[][][] lastTags;
    private Op[] served;
    private int[] until;
    private int[] position;
    private int[] busy;
    private int[][] ways;
    private int failed;
    private int[] states;
    private boolean[][] held;
    private int complete;
    private int saved;
    private int piggybacked;
    private int promisedAt;
    private int promisedFor;

    private void reset() {
        now = 0;
        lines = new ArrayList<>();
        lost = 0;
        requests = new ArrayList<>();
        queues = new ArrayList<>();
        for (int d = 0; d <= disks(); d++) {
            queues.add(new ArrayList<>());
            for (int t = 0; t < shares.size(); t++) {
                queues.get(d).add(new ArrayList<>());
            }
        }
        lastTags = new Long[disks() + 1][shares.size()][3];
        served = new Op[disks() + 1];
        until = new int[disks() + 1];
        position = new int[disks() + 1];
        busy = new int[disks() + 1];
        ways = new int[shares.size()][3];
        failed = -1;
        states = new int[stripes()];
        held = new boolean[disks() + 1][stripes()];
        complete = -1;
        saved = 0;
        piggybacked = 0;
        promisedFor = -1;
    }

    private int disks() {
        return numbers == null ? 0 : numbers[0];
    }

    private int stripes() {
        return numbers == null ? 0 : numbers[1];
    }

    // ---- texts

    private static List<Token> tokens(String text) {
        List<Token> all = new ArrayList<>();
        Matcher m = Pattern.compile("[a-z]+|[0-9]+|[ \n]+|[^a-z0-9 \n]").matcher(text);
        String before = "";
        while (m.find()) {
            String g = m.group();
            if (!g.trim().isEmpty() || g.charAt(0) != ' ' && g.charAt(0) != '\n') {
                Token t = new Token();
                t.text = g;
                t.at = m.start();
                t.bad = g.matches("[0-9]{6,}") || !g.matches("[a-z]+|[0-9]+|;")
                        || g.matches("[a-z0-9]+") && before.matches("[a-z0-9]+");
                all.add(t);
            }
            before = g;
        }
        Token end = new Token();
        end.text = "";
        end.at = text.length();
        all.add(end);
        return all;
    }

    private List<Token> rest;

    private boolean sees(String word) {
        return !rest.get(0).bad && rest.get(0).text.equals(word);
    }

    private void pass(String word) {
        if (!sees(word)) {
            throw new TextError(1, rest.get(0).at);
        }
        if (rest.size() > 1) {
            rest.remove(0);
        }
    }

    private int number(int least, int most, boolean zero) {
        Token t = rest.get(0);
        if (t.bad || !t.text.matches("[0-9]+")) {
            throw new TextError(1, t.at);
        }
        int n = Integer.parseInt(t.text);
        if (!(zero && n == 0) && (n < least || n > most)) {
            throw new TextError(2, t.at);
        }
        rest.remove(0);
        return n;
    }

    private int[] shareText() {
        int r = number(0, 1000, false);
        int w = number(1, 100, false);
        int l = number(Math.max(1, r), 1000, true);
        return new int[] {r, w, l};
    }

    private void parseArray(int[] into, List<int[]> newShares) {
        pass("disks");
        into[0] = number(3, 6, false);
        pass("stripes");
        into[1] = number(1, 64, false);
        pass("base");
        into[2] = number(1, 50, false);
        pass("seek");
        into[3] = number(0, 99, false);
        pass(";");
        pass("rebuild");
        newShares.add(shareText());
        pass("window");
        into[4] = number(1, 8, false);
        pass("cache");
        into[5] = number(0, 64, false);
        pass(";");
        while (sees("tenant")) {
            if (newShares.size() == 6) {
                throw new TextError(3, rest.get(0).at);
            }
            pass("tenant");
            newShares.add(shareText());
            pass(";");
        }
        into[6] = 20;
        if (sees("slack")) {
            pass("slack");
            into[6] = number(0, 500, false);
            pass(";");
        }
        pass("");
    }

    private List<Line> parseTrace() {
        List<Line> all = new ArrayList<>();
        int earliest = now + 1;
        while (sees("at")) {
            if (all.size() == 100) {
                throw new TextError(3, rest.get(0).at);
            }
            Line line = new Line();
            pass("at");
            line.tick = number(earliest, 99999, false);
            earliest = line.tick;
            line.tenant = number(1, shares.size() - 1, false);
            line.write = sees("writes");
            pass(line.write ? "writes" : "reads");
            line.unit = number(0, stripes() * (disks() - 1) - 1, false);
            if (sees("by")) {
                pass("by");
                line.deadline = number(line.tick, 99999, false);
            }
            pass(";");
            all.add(line);
        }
        pass("");
        return all;
    }

    int feed(int a, int b, int c, int d, int e) {
        if (buffer.length() + 20 > 800) {
            throw new IllegalStateException();
        }
        past.add(m -> m.feed(a, b, c, d, e));
        for (int n : new int[] {a, b, c, d, e}) {
            for (int k = 3; k >= 0; k--) {
                buffer.append((char) (n >> 8 * k & 255));
            }
        }
        return buffer.length();
    }

    private String take(int length) {
        if (length < 0 || length > buffer.length()) {
            throw new IllegalArgumentException();
        }
        String text = buffer.substring(0, length);
        buffer = new StringBuilder();
        return text;
    }

    int loadArray(int length) {
        rest = tokens(take(length));
        past.add(m -> {
            try {
                m.loadArray(length);
            } catch (IllegalStateException e) {
                return;
            }
        });
        code = 0;
        errorAt = -1;
        int[] into = new int[7];
        List<int[]> newShares = new ArrayList<>();
        try {
            parseArray(into, newShares);
        } catch (TextError e) {
            code = e.code;
            errorAt = e.position;
            throw new IllegalStateException();
        }
        numbers = into;
        shares = newShares;
        reset();
        return shares.size();
    }

    int loadTrace(int length) {
        rest = tokens(take(length));
        past.add(m -> {
            try {
                m.loadTrace(length);
            } catch (IllegalStateException e) {
                return;
            }
        });
        if (numbers == null) {
            throw new IllegalStateException();
        }
        code = 0;
        errorAt = -1;
        try {
            lines = parseTrace();
        } catch (TextError e) {
            code = e.code;
            errorAt = e.position;
            throw new IllegalStateException();
        }
        return lines.size();
    }

    int errorCode() {
        return code;
    }

    int errorPosition() {
        return errorAt;
    }

    // ---- the array

    private static void need(boolean exists) {
        if (!exists) {
            throw new NoSuchElementException();
        }
    }

    private static void needArgument(boolean fine) {
        if (!fine) {
            throw new IllegalArgumentException();
        }
    }

    private static void needState(boolean fine) {
        if (!fine) {
            throw new IllegalStateException();
        }
    }

    private boolean isTenant(int t, int least) {
        return t >= least && t < shares.size();
    }

    private boolean isUnit(int u) {
        return u >= 0 && u < stripes() * (disks() - 1);
    }

    private boolean isStripe(int s) {
        return s >= 0 && s < stripes();
    }

    private boolean isDisk(int d) {
        return numbers != null && d >= 0 && d <= disks();
    }

    int diskCount() {
        return disks();
    }

    int stripeCount() {
        return stripes();
    }

    int tenantCount() {
        return shares.size();
    }

    int stripeOf(int unit) {
        need(isUnit(unit));
        return unit / (disks() - 1);
    }

    int diskOf(int unit) {
        need(isUnit(unit));
        return (parityDisk(stripeOf(unit)) + 1 + unit % (disks() - 1)) % disks();
    }

    int parityDisk(int stripe) {
        need(isStripe(stripe));
        return stripe % disks();
    }

    int share(int tenant, int what) {
        need(isTenant(tenant, 0));
        needArgument(what >= 0 && what <= 2);
        return shares.get(tenant)[what];
    }

    // ---- changes

    private void queue(Op op) {
        int[] share = shares.get(op.tenant);
        Long[] last = lastTags[op.disk][op.tenant];
        long present = 1000L * now;
        if (share[0] > 0) {
            op.r = last[0] == null ? present : Math.max(present, last[0] + 1000000 / share[0]);
            last[0] = op.r;
        }
        op.p = last[1] == null ? present : Math.max(present, last[1] + 1000000 / share[1]);
        last[1] = op.p;
        if (share[2] > 0) {
            op.l = last[2] == null ? present : Math.max(present, last[2] + 1000000 / share[2]);
            last[2] = op.l;
        }
        queues.get(op.disk).get(op.tenant).add(op);
    }

    private void queueRequest(Req request, int disk) {
        Op op = new Op();
        op.tenant = request.tenant;
        op.disk = disk;
        op.stripe = request.stripe;
        op.write = request.write;
        op.deadline = request.deadline;
        op.request = request;
        request.pending++;
        queue(op);
    }

    private void queueRebuild(int stripe, int disk, boolean write) {
        Op op = new Op();
        op.disk = disk;
        op.stripe = stripe;
        op.write = write;
        op.deadline = stripeDeadline(stripe);
        queue(op);
    }

    private boolean survives(int disk) {
        return failed != -1 && disk != failed && disk < disks();
    }

    private void degraded(Req request) {
        for (int d = 0; d < disks(); d++) {
            if (survives(d) && !held[d][request.stripe]) {
                queueRequest(request, d);
            }
        }
        if (request.pending == 0) {
            request.end = now;
        }
    }

    private int accept(int tenant, int unit, boolean isWrite, int deadline) {
        Req request = new Req();
        request.tenant = tenant;
        request.stripe = stripeOf(unit);
        request.write = isWrite;
        request.deadline = deadline;
        request.from = now;
        requests.add(request);
        boolean rebuilt = failed != -1 && states[request.stripe] == 3;
        int[] targets = isWrite
                ? new int[] {diskOf(unit), parityDisk(request.stripe)}
                : new int[] {diskOf(unit)};
        for (int disk : targets) {
            if (disk != failed) {
                queueRequest(request, disk);
            } else if (rebuilt) {
                queueRequest(request, disks());
            } else if (!isWrite) {
                degraded(request);
            }
        }
        return requests.size() - 1;
    }

    int submit(int tenant, int unit, boolean isWrite, int deadline) {
        need(isTenant(tenant, 1) && isUnit(unit));
        needArgument(deadline == -1 || deadline >= now && deadline <= 99999);
        needState(requests.size() < 400);
        past.add(m -> m.submit(tenant, unit, isWrite, deadline));
        return accept(tenant, unit, isWrite, deadline);
    }

    int fail(int disk) {
        need(disk >= 0 && disk < disks());
        needState(failed == -1);
        past.add(m -> m.fail(disk));
        failed = disk;
        List<Op> all = new ArrayList<>();
        if (served[disk] != null) {
            all.add(served[disk]);
        }
        served[disk] = null;
        for (List<Op> queue : queues.get(disk)) {
            all.addAll(queue);
            queue.clear();
        }
        for (Op op : all) {
            op.request.pending--;
            if (!op.write) {
                degraded(op.request);
            } else if (op.request.pending == 0) {
                op.request.end = now;
            }
        }
        startStripes();
        return all.size();
    }

    private void startStripes() {
        while (failed != -1) {
            int active = 0;
            int lowest = -1;
            for (int s = stripes() - 1; s >= 0; s--) {
                active += states[s] == 1 || states[s] == 2 ? 1 : 0;
                lowest = states[s] == 0 ? s : lowest;
            }
            if (active >= numbers[4] || lowest == -1) {
                return;
            }
            states[lowest] = 1;
            for (int d = 0; d < disks(); d++) {
                if (survives(d) && !held[d][lowest]) {
                    queueRebuild(lowest, d, false);
                }
            }
            writeWhenHeld(lowest);
        }
    }

    private void writeWhenHeld(int stripe) {
        for (int d = 0; d < disks(); d++) {
            if (survives(d) && !held[d][stripe]) {
                return;
            }
        }
        states[stripe] = 2;
        queueRebuild(stripe, disks(), true);
    }

    private void end(Op op) {
        if (op.request != null) {
            op.request.pending--;
            if (op.request.pending == 0) {
                op.request.end = now;
            }
        }
        if (op.disk == disks() && op.tenant == 0) {
            states[op.stripe] = 3;
            for (int d = 0; d < disks(); d++) {
                held[d][op.stripe] = false;
            }
            if (rebuiltCount() == stripes()) {
                complete = now;
            }
        }
        if (!survives(op.disk)) {
            return;
        }
        int state = states[op.stripe];
        boolean was = held[op.disk][op.stripe];
        if (!op.write && state != 3 && !was) {
            if (state == 1) {
                held[op.disk][op.stripe] = true;
                if (op.tenant != 0) {
                    List<Op> own = queues.get(op.disk).get(0);
                    int before = own.size();
                    own.removeIf(o -> o.stripe == op.stripe);
                    if (own.size() != before - 1) {
                        throw new AssertionError("the rebuild has no read of this unit");
                    }
                    saved++;
                }
                writeWhenHeld(op.stripe);
            } else if (state == 0 && cachedUnits() < numbers[5]) {
                held[op.disk][op.stripe] = true;
                piggybacked++;
            }
        }
        if (op.write && was && (state == 0 || state == 1)) {
            held[op.disk][op.stripe] = false;
            if (state == 1) {
                queueRebuild(op.stripe, op.disk, false);
            }
        }
    }

    private Op choice(int disk, int way) {
        Op best = null;
        for (List<Op> queue : queues.get(disk)) {
            if (queue.isEmpty()) {
                continue;
            }
            Op op = queue.get(0);
            boolean can = way == 0 ? op.deadline != -1 && op.deadline <= now + numbers[6]
                    : way == 1 ? op.r != null && op.r <= 1000L * now : op.l <= 1000L * now;
            if (can && (best == null || key(op, way) < key(best, way))) {
                best = op;
            }
        }
        return best;
    }

    private static long key(Op op, int way) {
        return way == 0 ? op.deadline : way == 1 ? op.r : op.p;
    }

    private void choose(int disk) {
        for (int way = 0; way < 3; way++) {
            Op op = choice(disk, way);
            if (op == null) {
                continue;
            }
            List<Op> queue = queues.get(disk).get(op.tenant);
            queue.remove(0);
            int time = numbers[2] + Math.abs(position[disk] - op.stripe) * numbers[3] / 16;
            position[disk] = op.stripe;
            until[disk] = now + time;
            busy[disk] += time;
            served[disk] = op;
            ways[op.tenant][way]++;
            int reservation = shares.get(op.tenant)[0];
            if (way != 1 && reservation != 0) {
                for (Op left : queue) {
                    left.r = left.r == null ? null : Long.valueOf(left.r - 1000000 / reservation);
                }
                Long last = lastTags[disk][op.tenant][0];
                lastTags[disk][op.tenant][0] = last == null ? null : Long.valueOf(last - 1000000 / reservation);
            }
            return;
        }
    }

    private void tick() {
        now++;
        for (int d = 0; d <= disks(); d++) {
            if (served[d] != null && until[d] == now) {
                Op op = served[d];
                served[d] = null;
                end(op);
            }
        }
        while (!lines.isEmpty() && lines.get(0).tick == now) {
            Line line = lines.remove(0);
            if (requests.size() == 400) {
                lost++;
            } else {
                accept(line.tenant, line.unit, line.write, line.deadline);
            }
        }
        startStripes();
        for (int d = 0; d <= disks(); d++) {
            if (served[d] == null) {
                choose(d);
            }
        }
    }

    int advance(int n) {
        needArgument(n >= 1 && n <= 2000 && now + n <= 99999);
        needState(numbers != null);
        past.add(m -> m.advance(n));
        for (int i = 0; i < n; i++) {
            tick();
        }
        return now;
    }

    int promise(int tick) {
        needArgument(tick == -1 || tick > now && tick <= 99999);
        needState(numbers != null);
        past.add(m -> m.promise(tick));
        int before = promisedFor;
        promisedFor = tick;
        promisedAt = now;
        return before;
    }

    int setShare(int tenant, int reservation, int weight, int limit) {
        need(isTenant(tenant, 0));
        needArgument(reservation >= 0 && reservation <= 1000 && weight >= 1 && weight <= 100);
        needArgument(limit == 0 || limit >= Math.max(1, reservation) && limit <= 1000);
        past.add(m -> m.setShare(tenant, reservation, weight, limit));
        int before = shares.get(tenant)[0];
        shares.set(tenant, new int[] {reservation, weight, limit});
        return before;
    }

    // ---- disks and queues

    int now() {
        return now;
    }

    int failedDisk() {
        return numbers == null ? -1 : failed;
    }

    int queueLength(int disk, int tenant) {
        need(isDisk(disk) && isTenant(tenant, 0));
        return queues.get(disk).get(tenant).size();
    }

    long tag(int disk, int tenant, int what) {
        need(queueLength(disk, tenant) > 0);
        needArgument(what >= 0 && what <= 2);
        Op op = queues.get(disk).get(tenant).get(0);
        return what == 0 ? op.r == null ? -1 : op.r : what == 1 ? op.p : op.l;
    }

    int serving(int disk) {
        need(isDisk(disk));
        return served[disk] == null ? -1 : served[disk].tenant;
    }

    int busyUntil(int disk) {
        need(isDisk(disk));
        return served[disk] == null ? -1 : until[disk];
    }

    int position(int disk) {
        need(isDisk(disk));
        return position[disk];
    }

    int busyTime(int disk) {
        need(isDisk(disk));
        return busy[disk];
    }

    int behind(int disk, int tenant) {
        if (queueLength(disk, tenant) == 0 || queues.get(disk).get(tenant).get(0).r == null) {
            return 0;
        }
        double quotient = Math.floor(queues.get(disk).get(tenant).get(0).r / 1000.0);
        return Math.max(0, now - (int) quotient);
    }

    int chosen(int tenant, int way) {
        need(isTenant(tenant, 0));
        needArgument(way >= 0 && way <= 2);
        return ways[tenant][way];
    }

    // ---- requests

    int requestCount() {
        return requests.size();
    }

    int lostLines() {
        return lost;
    }

    int traceLines() {
        return lines.size();
    }

    private Req request(int number) {
        need(number >= 0 && number < requests.size());
        return requests.get(number);
    }

    int finishedAt(int request) {
        return request(request).end;
    }

    int pending(int request) {
        return request(request).pending;
    }

    private int[] latencies(int tenant) {
        need(isTenant(tenant, 1));
        return requests.stream().filter(r -> r.tenant == tenant && r.end != -1).mapToInt(r -> r.end - r.from).toArray();
    }

    int finished(int tenant) {
        return latencies(tenant).length;
    }

    int totalLatency(int tenant) {
        return Arrays.stream(latencies(tenant)).sum();
    }

    int worstLatency(int tenant) {
        return Arrays.stream(latencies(tenant)).max().orElse(-1);
    }

    int late(int tenant) {
        need(isTenant(tenant, 1));
        return (int) requests.stream()
                .filter(r -> r.tenant == tenant && r.deadline != -1 && r.end > r.deadline).count();
    }

    // ---- the rebuild

    int stripeState(int stripe) {
        need(isStripe(stripe));
        return failed == -1 ? -1 : states[stripe];
    }

    boolean isHeld(int disk, int stripe) {
        need(isStripe(stripe) && disk >= 0 && disk < disks());
        return held[disk][stripe];
    }

    int cachedUnits() {
        int n = 0;
        for (int s = 0; s < stripes(); s++) {
            for (int d = 0; d < disks(); d++) {
                n += states[s] == 0 && held[d][s] ? 1 : 0;
            }
        }
        return n;
    }

    int rebuiltCount() {
        return numbers == null ? 0 : (int) Arrays.stream(states).filter(s -> s == 3).count();
    }

    int completedAt() {
        return numbers == null ? -1 : complete;
    }

    int savedReads() {
        return saved;
    }

    int piggybackedReads() {
        return piggybacked;
    }

    int stripeDeadline(int stripe) {
        need(isStripe(stripe));
        return promisedFor == -1 ? -1 : promisedAt + (promisedFor - promisedAt) * (stripe + 1) / stripes();
    }

    int forecast() {
        if (numbers == null || failed == -1) {
            return -1;
        }
        Model thought = new Model();
        for (Change change : past) {
            change.on(thought);
        }
        for (int i = 0; i < 20000 && thought.now < 99999 && thought.complete == -1; i++) {
            thought.tick();
        }
        return thought.complete;
    }

    int bound() {
        if (numbers == null || failed == -1 || shares.get(0)[0] == 0) {
            return -1;
        }
        int latest = now;
        for (int d = 0; d < disks(); d++) {
            int n = 0;
            for (int s = 0; s < stripes(); s++) {
                n += survives(d) && states[s] <= 1 && !held[d][s] ? 1 : 0;
            }
            latest = Math.max(latest, now + (int) Math.ceil(1000.0 * n / shares.get(0)[0]));
        }
        return latest;
    }
}

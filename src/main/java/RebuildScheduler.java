import java.util.Arrays;
import java.util.NoSuchElementException;

/**
 * A scheduler for the disks of an array with rotating parity that treats the reconstruction of a
 * failed disk as a tenant with its own service guarantee.
 */
public final class RebuildScheduler {
    private static final int LAST_TICK = 99999;
    private static final int LONGEST_ADVANCE = 2000;
    private static final int LONGEST_FORECAST = 20000;
    private static final int BUFFER_BYTES = 800;
    private static final int BYTES_OF_A_FEED = 20;

    private static final int DISK_ROWS = 7;
    private static final int TENANT_ROWS = 6;
    private static final int STRIPE_ROWS = 64;
    private static final int REQUEST_ROWS = 400;
    private static final int LINE_ROWS = 100;
    private static final int WAYS = 3;

    private static final int NONE = -1;
    private static final int SYNTAX = 1;
    private static final int RANGE = 2;
    private static final int LIMIT = 3;

    private final Text text;
    private Trace draft;
    /** Made with the first array, so that an object without one stays small; null until then. */
    private Engine engine;
    /** The engine that forecasts run on, made with the first forecast; null until then. */
    private Engine thought;

    public RebuildScheduler() {
        text = new Text();
        draft = null;
        engine = null;
        thought = null;
    }

    public int feed(int a, int b, int c, int d, int e) throws IllegalStateException {
        if (text.filled + BYTES_OF_A_FEED > BUFFER_BYTES) {
            throw new IllegalStateException("the buffer is full");
        }
        text.append(a);
        text.append(b);
        text.append(c);
        text.append(d);
        text.append(e);
        return text.filled;
    }

    public int loadArray(int length) throws IllegalArgumentException, IllegalStateException {
        if (length < 0 || length > text.filled) {
            throw new IllegalArgumentException("length is out of range");
        }
        Plan plan = new Plan();
        text.begin(length);
        plan.readFrom(text);
        text.filled = 0;
        if (text.errorCode != 0) {
            throw new IllegalStateException("the text has an error");
        }
        if (engine == null) {
            engine = new Engine(plan, new Trace());
        }
        engine.beginAnew(plan);
        return plan.tenants;
    }

    public int loadTrace(int length) throws IllegalArgumentException, IllegalStateException {
        if (length < 0 || length > text.filled) {
            throw new IllegalArgumentException("length is out of range");
        }
        if (engine == null) {
            text.filled = 0;
            throw new IllegalStateException("there is no array");
        }
        if (draft == null) {
            draft = new Trace();
        }
        text.begin(length);
        draft.readFrom(text, engine.plan, engine.now);
        text.filled = 0;
        if (text.errorCode != 0) {
            throw new IllegalStateException("the text has an error");
        }
        Trace old = engine.trace;
        engine.follow(draft);
        draft = old;
        return engine.trace.count;
    }

    public int errorCode() {
        return text.errorCode;
    }

    public int errorPosition() {
        return text.errorPosition;
    }

    public int diskCount() {
        return engine == null ? 0 : engine.plan.disks;
    }

    public int stripeCount() {
        return engine == null ? 0 : engine.plan.stripes;
    }

    public int tenantCount() {
        return engine == null ? 0 : engine.plan.tenants;
    }

    public int stripeOf(int unit) throws NoSuchElementException {
        if (engine == null || !engine.plan.hasUnit(unit)) {
            throw new NoSuchElementException("no such unit");
        }
        return engine.plan.stripeWith(unit);
    }

    public int diskOf(int unit) throws NoSuchElementException {
        if (engine == null || !engine.plan.hasUnit(unit)) {
            throw new NoSuchElementException("no such unit");
        }
        return engine.plan.diskWith(unit);
    }

    public int parityDisk(int stripe) throws NoSuchElementException {
        if (engine == null || !engine.plan.hasStripe(stripe)) {
            throw new NoSuchElementException("no such stripe");
        }
        return engine.plan.parityOf(stripe);
    }

    public int share(int tenant, int what) throws NoSuchElementException, IllegalArgumentException {
        if (engine == null || !engine.plan.hasTenant(tenant, 0)) {
            throw new NoSuchElementException("no such tenant");
        }
        switch (what) {
            case 0:
                return engine.plan.reservation[tenant];
            case 1:
                return engine.plan.weight[tenant];
            case 2:
                return engine.plan.limit[tenant];
            default:
                throw new IllegalArgumentException("what is out of range");
        }
    }

    public int submit(int tenant, int unit, boolean isWrite, int deadline)
            throws NoSuchElementException, IllegalArgumentException, IllegalStateException {
        if (engine == null || !engine.plan.hasTenant(tenant, 1) || !engine.plan.hasUnit(unit)) {
            throw new NoSuchElementException("no such tenant or unit");
        }
        if (deadline != NONE && (deadline < engine.now || deadline > LAST_TICK)) {
            throw new IllegalArgumentException("deadline is out of range");
        }
        if (engine.requests.count >= REQUEST_ROWS) {
            throw new IllegalStateException("there are 400 requests");
        }
        return engine.accept(tenant, unit, isWrite, deadline);
    }

    public int fail(int disk) throws NoSuchElementException, IllegalStateException {
        if (engine == null || disk < 0 || disk >= engine.plan.disks) {
            throw new NoSuchElementException("no such disk");
        }
        if (engine.rebuild.failedDisk != NONE) {
            throw new IllegalStateException("a disk has failed already");
        }
        return engine.loseDisk(disk);
    }

    public int advance(int n) throws IllegalArgumentException, IllegalStateException {
        if (n < 1 || n > LONGEST_ADVANCE || n > LAST_TICK - now()) {
            throw new IllegalArgumentException("n is out of range");
        }
        if (engine == null) {
            throw new IllegalStateException("there is no array");
        }
        engine.runTo(engine.now + n, false);
        return engine.now;
    }

    public int promise(int tick) throws IllegalArgumentException, IllegalStateException {
        if (tick != NONE && (tick <= now() || tick > LAST_TICK)) {
            throw new IllegalArgumentException("tick is out of range");
        }
        if (engine == null) {
            throw new IllegalStateException("there is no array");
        }
        int before = engine.rebuild.promisedTick;
        engine.rebuild.promisedTick = tick;
        engine.rebuild.promisedSince = engine.now;
        return before;
    }

    public int setShare(int tenant, int reservation, int weight, int limit)
            throws NoSuchElementException, IllegalArgumentException {
        if (engine == null || !engine.plan.hasTenant(tenant, 0)) {
            throw new NoSuchElementException("no such tenant");
        }
        if (!Plan.isShare(reservation, weight, limit)) {
            throw new IllegalArgumentException("the share is out of range");
        }
        int before = engine.plan.reservation[tenant];
        engine.plan.reservation[tenant] = reservation;
        engine.plan.weight[tenant] = weight;
        engine.plan.limit[tenant] = limit;
        return before;
    }

    public int now() {
        return engine == null ? 0 : engine.now;
    }

    public int failedDisk() {
        return engine == null ? NONE : engine.rebuild.failedDisk;
    }

    public int queueLength(int disk, int tenant) throws NoSuchElementException {
        if (engine == null || !engine.plan.hasQueue(disk, tenant)) {
            throw new NoSuchElementException("no such disk or tenant");
        }
        return engine.queues.length[Queues.numberOf(disk, tenant)];
    }

    public long tag(int disk, int tenant, int what) throws NoSuchElementException, IllegalArgumentException {
        if (engine == null || !engine.plan.hasQueue(disk, tenant)) {
            throw new NoSuchElementException("no such disk or tenant");
        }
        int queue = Queues.numberOf(disk, tenant);
        if (engine.queues.length[queue] == 0) {
            throw new NoSuchElementException("the queue is empty");
        }
        int operation = engine.queues.first[queue];
        switch (what) {
            case 0:
                return engine.queues.hasTagR(operation) ? engine.queues.tagR[operation] : NONE;
            case 1:
                return engine.queues.tagP[operation];
            case 2:
                return engine.queues.tagL[operation];
            default:
                throw new IllegalArgumentException("what is out of range");
        }
    }

    public int serving(int disk) throws NoSuchElementException {
        if (engine == null || !engine.plan.hasDiskOrSpare(disk)) {
            throw new NoSuchElementException("no such disk");
        }
        int operation = engine.disks.operation[disk];
        return operation == NONE ? NONE : engine.requests.tenantBehind(operation);
    }

    public int busyUntil(int disk) throws NoSuchElementException {
        if (engine == null || !engine.plan.hasDiskOrSpare(disk)) {
            throw new NoSuchElementException("no such disk");
        }
        return engine.disks.operation[disk] == NONE ? NONE : engine.disks.endTick[disk];
    }

    public int position(int disk) throws NoSuchElementException {
        if (engine == null || !engine.plan.hasDiskOrSpare(disk)) {
            throw new NoSuchElementException("no such disk");
        }
        return engine.disks.stripe[disk];
    }

    public int busyTime(int disk) throws NoSuchElementException {
        if (engine == null || !engine.plan.hasDiskOrSpare(disk)) {
            throw new NoSuchElementException("no such disk");
        }
        return engine.disks.servedTicks[disk];
    }

    public int behind(int disk, int tenant) throws NoSuchElementException {
        if (engine == null || !engine.plan.hasQueue(disk, tenant)) {
            throw new NoSuchElementException("no such disk or tenant");
        }
        int queue = Queues.numberOf(disk, tenant);
        if (engine.queues.length[queue] == 0 || !engine.queues.hasTagR(engine.queues.first[queue])) {
            return 0;
        }
        long due = Math.floorDiv(engine.queues.tagR[engine.queues.first[queue]], 1000L);
        return due >= engine.now ? 0 : (int) (engine.now - due);
    }

    public int chosen(int tenant, int way) throws NoSuchElementException, IllegalArgumentException {
        if (engine == null || !engine.plan.hasTenant(tenant, 0)) {
            throw new NoSuchElementException("no such tenant");
        }
        if (way < 0 || way >= WAYS) {
            throw new IllegalArgumentException("way is out of range");
        }
        return engine.disks.choices[tenant * WAYS + way];
    }

    public int requestCount() {
        return engine == null ? 0 : engine.requests.count;
    }

    public int lostLines() {
        return engine == null ? 0 : engine.linesLost;
    }

    public int traceLines() {
        return engine == null ? 0 : engine.trace.count - engine.nextLine;
    }

    public int finishedAt(int request) throws NoSuchElementException {
        if (engine == null || request < 0 || request >= engine.requests.count) {
            throw new NoSuchElementException("no such request");
        }
        return engine.requests.endTick[request];
    }

    public int pending(int request) throws NoSuchElementException {
        if (engine == null || request < 0 || request >= engine.requests.count) {
            throw new NoSuchElementException("no such request");
        }
        return engine.requests.open[request];
    }

    public int finished(int tenant) throws NoSuchElementException {
        if (engine == null || !engine.plan.hasTenant(tenant, 1)) {
            throw new NoSuchElementException("no such tenant from 1 on");
        }
        return engine.requests.ended[tenant];
    }

    public int totalLatency(int tenant) throws NoSuchElementException {
        if (engine == null || !engine.plan.hasTenant(tenant, 1)) {
            throw new NoSuchElementException("no such tenant from 1 on");
        }
        return engine.requests.latencySum[tenant];
    }

    public int worstLatency(int tenant) throws NoSuchElementException {
        if (engine == null || !engine.plan.hasTenant(tenant, 1)) {
            throw new NoSuchElementException("no such tenant from 1 on");
        }
        return engine.requests.latencyMost[tenant];
    }

    public int late(int tenant) throws NoSuchElementException {
        if (engine == null || !engine.plan.hasTenant(tenant, 1)) {
            throw new NoSuchElementException("no such tenant from 1 on");
        }
        return engine.requests.lateOnes[tenant];
    }

    public int stripeState(int stripe) throws NoSuchElementException {
        if (engine == null || !engine.plan.hasStripe(stripe)) {
            throw new NoSuchElementException("no such stripe");
        }
        return engine.rebuild.failedDisk == NONE ? NONE : engine.rebuild.state[stripe];
    }

    public boolean isHeld(int disk, int stripe) throws NoSuchElementException {
        if (engine == null || disk < 0 || disk >= engine.plan.disks || !engine.plan.hasStripe(stripe)) {
            throw new NoSuchElementException("no such disk or stripe");
        }
        return engine.rebuild.holds(disk, stripe);
    }

    public int cachedUnits() {
        return engine == null ? 0 : engine.rebuild.cached;
    }

    public int rebuiltCount() {
        return engine == null ? 0 : engine.rebuild.rebuilt;
    }

    public int completedAt() {
        return engine == null ? NONE : engine.rebuild.completeTick;
    }

    public int savedReads() {
        return engine == null ? 0 : engine.rebuild.saved;
    }

    public int piggybackedReads() {
        return engine == null ? 0 : engine.rebuild.piggybacked;
    }

    public int stripeDeadline(int stripe) throws NoSuchElementException {
        if (engine == null || !engine.plan.hasStripe(stripe)) {
            throw new NoSuchElementException("no such stripe");
        }
        return engine.rebuild.deadlineOf(stripe, engine.plan.stripes);
    }

    public int forecast() {
        if (engine == null || engine.rebuild.failedDisk == NONE) {
            return NONE;
        }
        if (thought == null) {
            thought = new Engine(engine.plan, engine.trace);
        }
        thought.copyFrom(engine);
        thought.runTo(Math.min(engine.now + LONGEST_FORECAST, LAST_TICK), true);
        return thought.rebuild.completeTick;
    }

    public int bound() {
        if (engine == null || engine.rebuild.failedDisk == NONE || engine.plan.reservation[0] <= 0) {
            return NONE;
        }
        int most = 0;
        for (int disk = 0; disk < engine.plan.disks; disk++) {
            if (disk != engine.rebuild.failedDisk) {
                most = Math.max(most, engine.rebuild.unitsToRead(disk, engine.plan.stripes));
            }
        }
        int reservation = engine.plan.reservation[0];
        return engine.now + (1000 * most + reservation - 1) / reservation;
    }

    /** The input buffer, and the tokens of the text in it. */
    private static final class Text {
        private static final int END = 0;
        private static final int BAD = 1;
        private static final int BLANK = 2;
        private static final int WORD = 3;
        private static final int NUMBER = 4;
        private static final int SIGN = 5;
        private static final int MOST_DIGITS = 5;

        final byte[] bytes = new byte[BUFFER_BYTES];
        int filled = 0;
        int length = 0;
        int kind = END;
        int start = 0;
        int end = 0;
        int errorCode = 0;
        int errorPosition = NONE;

        void append(int fourBytes) {
            for (int shift = 24; shift >= 0 && filled < BUFFER_BYTES; shift -= 8) {
                bytes[filled] = (byte) (fourBytes >>> shift);
                filled++;
            }
        }

        void begin(int textLength) {
            length = Math.min(textLength, filled);
            kind = END;
            end = 0;
            errorCode = 0;
            errorPosition = NONE;
            step();
        }

        private static int kindOf(int sign) {
            if (sign >= 'a' && sign <= 'z') {
                return WORD;
            }
            if (sign >= '0' && sign <= '9') {
                return NUMBER;
            }
            if (sign == ' ' || sign == '\n') {
                return BLANK;
            }
            return sign == ';' ? SIGN : BAD;
        }

        private void step() {
            boolean followsRun = kind == WORD || kind == NUMBER;
            start = end;
            while (start < length && kindOf(bytes[start]) == BLANK) {
                start++;
            }
            boolean isGlued = followsRun && start == end;
            if (start >= length) {
                kind = END;
                return;
            }
            kind = kindOf(bytes[start]);
            end = start + 1;
            if (kind != WORD && kind != NUMBER) {
                return;
            }
            while (end < length && kindOf(bytes[end]) == kind) {
                end++;
            }
            if (isGlued || kind == NUMBER && end - start > MOST_DIGITS) {
                kind = BAD;
            }
        }

        /** Only the first error counts, and no token fits behind it: it has the least position. */
        void report(int code) {
            if (errorCode == 0) {
                errorCode = code;
                errorPosition = start;
            }
            kind = BAD;
        }

        boolean sees(String word) {
            if (kind != WORD || end - start != word.length()) {
                return false;
            }
            for (int i = 0; i < word.length(); i++) {
                if (bytes[start + i] != word.charAt(i)) {
                    return false;
                }
            }
            return true;
        }

        void passWord(String word) {
            if (sees(word)) {
                step();
            } else {
                report(SYNTAX);
            }
        }

        void passSign() {
            if (kind == SIGN) {
                step();
            } else {
                report(SYNTAX);
            }
        }

        void passEnd() {
            if (kind != END) {
                report(SYNTAX);
            }
        }

        int takeNumber(int least, int most) {
            return takeFitting(least, most, false);
        }

        int takeNumberOrZero(int least, int most) {
            return takeFitting(least, most, true);
        }

        private int takeFitting(int least, int most, boolean isZeroFine) {
            if (kind != NUMBER) {
                report(SYNTAX);
                return 0;
            }
            int value = 0;
            for (int i = start; i < end; i++) {
                value = value * 10 + (bytes[i] - '0');
            }
            boolean isInRange = value >= least && value <= most;
            if (isInRange || isZeroFine && value == 0) {
                step();
                return value;
            }
            report(RANGE);
            return 0;
        }
    }

    /** The numbers of an array; all of them stay as they are but for the shares. */
    private static final class Plan {
        int disks = 0;
        int stripes = 0;
        int base = 0;
        int seek = 0;
        int window = 0;
        int cache = 0;
        int slack = 20;
        int tenants = 0;
        final int[] reservation = new int[TENANT_ROWS];
        final int[] weight = new int[TENANT_ROWS];
        final int[] limit = new int[TENANT_ROWS];

        void readFrom(Text text) {
            text.passWord("disks");
            disks = text.takeNumber(3, DISK_ROWS - 1);
            text.passWord("stripes");
            stripes = text.takeNumber(1, STRIPE_ROWS);
            text.passWord("base");
            base = text.takeNumber(1, 50);
            text.passWord("seek");
            seek = text.takeNumber(0, 99);
            text.passSign();
            text.passWord("rebuild");
            readShare(text, 0);
            text.passWord("window");
            window = text.takeNumber(1, 8);
            text.passWord("cache");
            cache = text.takeNumber(0, 64);
            text.passSign();
            readTenants(text);
            if (text.sees("slack")) {
                text.passWord("slack");
                slack = text.takeNumber(0, 500);
                text.passSign();
            }
            text.passEnd();
        }

        private void readTenants(Text text) {
            for (tenants = 1; tenants < TENANT_ROWS && text.sees("tenant"); tenants++) {
                text.passWord("tenant");
                readShare(text, tenants);
                text.passSign();
            }
            if (text.sees("tenant")) {
                text.report(LIMIT);
            }
        }

        private void readShare(Text text, int tenant) {
            reservation[tenant] = text.takeNumber(0, 1000);
            weight[tenant] = text.takeNumber(1, 100);
            limit[tenant] = text.takeNumberOrZero(reservation[tenant], 1000);
        }

        static boolean isShare(int reservation, int weight, int limit) {
            return reservation >= 0 && reservation <= 1000
                    && weight >= 1 && weight <= 100
                    && (limit == 0 || limit >= reservation && limit <= 1000);
        }

        boolean hasDiskOrSpare(int disk) {
            return disk >= 0 && disk <= disks;
        }

        boolean hasTenant(int tenant, int lowest) {
            return tenant >= lowest && tenant < tenants;
        }

        boolean hasQueue(int disk, int tenant) {
            return hasDiskOrSpare(disk) && hasTenant(tenant, 0);
        }

        boolean hasStripe(int stripe) {
            return stripe >= 0 && stripe < stripes;
        }

        int units() {
            return stripes * (disks - 1);
        }

        boolean hasUnit(int unit) {
            return unit >= 0 && unit < units();
        }

        int stripeWith(int unit) {
            return disks > 1 ? unit / (disks - 1) : 0;
        }

        int diskWith(int unit) {
            if (disks <= 1) {
                return 0;
            }
            return (parityOf(stripeWith(unit)) + 1 + unit % (disks - 1)) % disks;
        }

        int parityOf(int stripe) {
            return disks > 0 ? stripe % disks : 0;
        }
    }

    /** The lines of a trace. */
    private static final class Trace {
        int count = 0;
        final int[] tick = new int[LINE_ROWS];
        final int[] tenant = new int[LINE_ROWS];
        final int[] unit = new int[LINE_ROWS];
        final int[] deadline = new int[LINE_ROWS];
        final boolean[] isWrite = new boolean[LINE_ROWS];

        void readFrom(Text text, Plan plan, int now) {
            int earliest = now + 1;
            for (count = 0; count < LINE_ROWS && text.sees("at"); count++) {
                readLine(text, plan, earliest);
                earliest = tick[count];
            }
            if (text.sees("at")) {
                text.report(LIMIT);
            }
            text.passEnd();
        }

        private void readLine(Text text, Plan plan, int earliest) {
            text.passWord("at");
            tick[count] = text.takeNumber(earliest, LAST_TICK);
            tenant[count] = text.takeNumber(1, plan.tenants - 1);
            isWrite[count] = text.sees("writes");
            text.passWord(isWrite[count] ? "writes" : "reads");
            unit[count] = text.takeNumber(0, plan.units() - 1);
            deadline[count] = NONE;
            if (text.sees("by")) {
                text.passWord("by");
                deadline[count] = text.takeNumber(tick[count], LAST_TICK);
            }
            text.passSign();
        }
    }

    /**
     * The queues of all disks and tenants. An operation's number tells its disk and what it is for:
     * a request has at most one operation on a disk, and so has the rebuild of a stripe, so that
     * every operation that can exist has a place of its own.
     */
    private static final class Queues {
        private static final int QUEUES = DISK_ROWS * TENANT_ROWS;
        private static final int OPERATIONS = (STRIPE_ROWS + REQUEST_ROWS) * DISK_ROWS;
        private static final int MILLION = 1000000;
        /** So far below 0 that it loses against the present tick even with a step added. */
        private static final long NO_TAG = -(1L << 60);
        private static final long FAR = 1L << 60;

        final int[] first = new int[QUEUES];
        final int[] last = new int[QUEUES];
        final int[] length = new int[QUEUES];
        final long[] lastR = new long[QUEUES];
        final long[] lastP = new long[QUEUES];
        final long[] lastL = new long[QUEUES];
        final long[] tagR = new long[OPERATIONS];
        final long[] tagP = new long[OPERATIONS];
        final long[] tagL = new long[OPERATIONS];
        final int[] deadline = new int[OPERATIONS];
        final int[] next = new int[OPERATIONS];

        static int numberOf(int disk, int tenant) {
            return disk * TENANT_ROWS + tenant;
        }

        static int rebuildOperation(int stripe, int disk) {
            return stripe * DISK_ROWS + disk;
        }

        static int requestOperation(int request, int disk) {
            return (STRIPE_ROWS + request) * DISK_ROWS + disk;
        }

        static boolean isOfRebuild(int operation) {
            return operation < STRIPE_ROWS * DISK_ROWS;
        }

        static int rebuiltStripe(int operation) {
            return operation / DISK_ROWS;
        }

        static int requestBehind(int operation) {
            return operation / DISK_ROWS - STRIPE_ROWS;
        }

        void clear() {
            Arrays.fill(length, 0);
            Arrays.fill(lastR, NO_TAG);
            Arrays.fill(lastP, NO_TAG);
            Arrays.fill(lastL, NO_TAG);
        }

        /** Copies no more operations than there can be with so many requests. */
        void copyFrom(Queues other, int requests) {
            System.arraycopy(other.first, 0, first, 0, QUEUES);
            System.arraycopy(other.last, 0, last, 0, QUEUES);
            System.arraycopy(other.length, 0, length, 0, QUEUES);
            System.arraycopy(other.lastR, 0, lastR, 0, QUEUES);
            System.arraycopy(other.lastP, 0, lastP, 0, QUEUES);
            System.arraycopy(other.lastL, 0, lastL, 0, QUEUES);
            int operations = Math.min(requestOperation(requests, 0), OPERATIONS);
            System.arraycopy(other.tagR, 0, tagR, 0, operations);
            System.arraycopy(other.tagP, 0, tagP, 0, operations);
            System.arraycopy(other.tagL, 0, tagL, 0, operations);
            System.arraycopy(other.deadline, 0, deadline, 0, operations);
            System.arraycopy(other.next, 0, next, 0, operations);
        }

        boolean hasTagR(int operation) {
            return tagR[operation] != NO_TAG;
        }

        void append(int queue, int operation, int due, Plan plan, int now) {
            int tenant = queue % TENANT_ROWS;
            long present = 1000L * now;
            tagR[operation] = NO_TAG;
            if (plan.reservation[tenant] > 0) {
                lastR[queue] = Math.max(present, lastR[queue] + MILLION / plan.reservation[tenant]);
                tagR[operation] = lastR[queue];
            }
            if (plan.weight[tenant] > 0) {
                lastP[queue] = Math.max(present, lastP[queue] + MILLION / plan.weight[tenant]);
            }
            tagP[operation] = lastP[queue];
            tagL[operation] = 0;
            if (plan.limit[tenant] > 0) {
                lastL[queue] = Math.max(present, lastL[queue] + MILLION / plan.limit[tenant]);
                tagL[operation] = lastL[queue];
            }
            deadline[operation] = due;
            next[operation] = NONE;
            if (length[queue] == 0) {
                first[queue] = operation;
            } else {
                next[last[queue]] = operation;
            }
            last[queue] = operation;
            length[queue]++;
        }

        int removeFirst(int queue) {
            if (length[queue] == 0) {
                return NONE;
            }
            int operation = first[queue];
            first[queue] = next[operation];
            length[queue]--;
            return operation;
        }

        boolean remove(int queue, int operation) {
            int before = NONE;
            int at = first[queue];
            for (int left = length[queue]; left > 0; left--) {
                if (at == operation) {
                    unlink(queue, before, at);
                    return true;
                }
                before = at;
                at = next[at];
            }
            return false;
        }

        private void unlink(int queue, int before, int operation) {
            if (before == NONE) {
                first[queue] = next[operation];
            } else {
                next[before] = next[operation];
            }
            if (last[queue] == operation) {
                last[queue] = before;
            }
            length[queue]--;
        }

        /** An operation that was not chosen by its reservation must not use the reservation up. */
        void credit(int queue, int reservation) {
            int step = reservation > 0 ? MILLION / reservation : 0;
            int at = first[queue];
            for (int left = length[queue]; left > 0; left--) {
                if (hasTagR(at)) {
                    tagR[at] -= step;
                }
                at = next[at];
            }
            if (lastR[queue] != NO_TAG) {
                lastR[queue] -= step;
            }
        }

        /** What the first operations compete with in a way, the least wins; FAR if one takes no part. */
        private long rank(int operation, int way, int slack, int now) {
            if (way == Disks.PROMOTED) {
                boolean isNear = deadline[operation] != NONE && deadline[operation] <= now + slack;
                return isNear ? deadline[operation] : FAR;
            }
            if (way == Disks.RESERVED) {
                return hasTagR(operation) && tagR[operation] <= 1000L * now ? tagR[operation] : FAR;
            }
            return tagL[operation] <= 1000L * now ? tagP[operation] : FAR;
        }

        int bestTenant(int disk, int way, Plan plan, int now) {
            int best = NONE;
            long least = FAR;
            for (int tenant = 0; tenant < plan.tenants; tenant++) {
                int queue = numberOf(disk, tenant);
                long rank = length[queue] == 0 ? FAR : rank(first[queue], way, plan.slack, now);
                if (rank < least) {
                    best = tenant;
                    least = rank;
                }
            }
            return best;
        }

        /** The first tick from which on one of a disk's first operations can be chosen. */
        long earliestChoice(int disk, Plan plan) {
            long earliest = FAR;
            for (int tenant = 0; tenant < plan.tenants; tenant++) {
                int queue = numberOf(disk, tenant);
                if (length[queue] > 0) {
                    earliest = Math.min(earliest, choosableFrom(first[queue], plan.slack));
                }
            }
            return earliest;
        }

        private long choosableFrom(int operation, int slack) {
            long from = roundedUp(tagL[operation]);
            if (hasTagR(operation)) {
                from = Math.min(from, roundedUp(tagR[operation]));
            }
            if (deadline[operation] != NONE) {
                from = Math.min(from, (long) deadline[operation] - slack);
            }
            return from;
        }

        private static long roundedUp(long tag) {
            return -Math.floorDiv(-tag, 1000L);
        }
    }

    /** What the disks do, the spare disk included. */
    private static final class Disks {
        static final int PROMOTED = 0;
        static final int RESERVED = 1;

        final int[] operation = new int[DISK_ROWS];
        final int[] endTick = new int[DISK_ROWS];
        final int[] stripe = new int[DISK_ROWS];
        final int[] servedTicks = new int[DISK_ROWS];
        final int[] choices = new int[TENANT_ROWS * WAYS];

        void clear() {
            Arrays.fill(operation, NONE);
            Arrays.fill(endTick, NONE);
            Arrays.fill(stripe, 0);
            Arrays.fill(servedTicks, 0);
            Arrays.fill(choices, 0);
        }

        void copyFrom(Disks other) {
            System.arraycopy(other.operation, 0, operation, 0, DISK_ROWS);
            System.arraycopy(other.endTick, 0, endTick, 0, DISK_ROWS);
            System.arraycopy(other.stripe, 0, stripe, 0, DISK_ROWS);
            System.arraycopy(other.servedTicks, 0, servedTicks, 0, DISK_ROWS);
            System.arraycopy(other.choices, 0, choices, 0, choices.length);
        }

        void serve(int disk, int chosenOperation, int itsStripe, Plan plan, int now) {
            int ticks = plan.base + Math.abs(stripe[disk] - itsStripe) * plan.seek / 16;
            operation[disk] = chosenOperation;
            endTick[disk] = now + ticks;
            stripe[disk] = itsStripe;
            servedTicks[disk] += ticks;
        }

        int release(int disk) {
            int served = operation[disk];
            operation[disk] = NONE;
            endTick[disk] = NONE;
            return served;
        }
    }

    /** The requests, and what is counted of them for each tenant. */
    private static final class Requests {
        static final int READ = 0;
        static final int WRITE = 1;

        int count = 0;
        final int[] tenant = new int[REQUEST_ROWS];
        final int[] stripe = new int[REQUEST_ROWS];
        final int[] kind = new int[REQUEST_ROWS];
        final int[] deadline = new int[REQUEST_ROWS];
        final int[] beginTick = new int[REQUEST_ROWS];
        final int[] endTick = new int[REQUEST_ROWS];
        /** The number of its operations that are not finished. */
        final int[] open = new int[REQUEST_ROWS];
        final int[] ended = new int[TENANT_ROWS];
        final int[] latencySum = new int[TENANT_ROWS];
        final int[] latencyMost = new int[TENANT_ROWS];
        final int[] lateOnes = new int[TENANT_ROWS];

        void clear() {
            count = 0;
            Arrays.fill(ended, 0);
            Arrays.fill(latencySum, 0);
            Arrays.fill(latencyMost, NONE);
            Arrays.fill(lateOnes, 0);
        }

        void copyFrom(Requests other) {
            count = other.count;
            System.arraycopy(other.tenant, 0, tenant, 0, count);
            System.arraycopy(other.stripe, 0, stripe, 0, count);
            System.arraycopy(other.kind, 0, kind, 0, count);
            System.arraycopy(other.deadline, 0, deadline, 0, count);
            System.arraycopy(other.beginTick, 0, beginTick, 0, count);
            System.arraycopy(other.endTick, 0, endTick, 0, count);
            System.arraycopy(other.open, 0, open, 0, count);
            System.arraycopy(other.ended, 0, ended, 0, TENANT_ROWS);
            System.arraycopy(other.latencySum, 0, latencySum, 0, TENANT_ROWS);
            System.arraycopy(other.latencyMost, 0, latencyMost, 0, TENANT_ROWS);
            System.arraycopy(other.lateOnes, 0, lateOnes, 0, TENANT_ROWS);
        }

        int add(int itsTenant, int itsStripe, boolean writes, int due, int now) {
            int request = count;
            count++;
            tenant[request] = itsTenant;
            stripe[request] = itsStripe;
            kind[request] = writes ? WRITE : READ;
            deadline[request] = due;
            beginTick[request] = now;
            endTick[request] = NONE;
            open[request] = 0;
            return request;
        }

        int tenantBehind(int operation) {
            return Queues.isOfRebuild(operation) ? 0 : tenant[Queues.requestBehind(operation)];
        }

        int stripeBehind(int operation) {
            return Queues.isOfRebuild(operation)
                    ? Queues.rebuiltStripe(operation)
                    : stripe[Queues.requestBehind(operation)];
        }

        void endOperation(int request, int now) {
            open[request]--;
            if (open[request] == 0) {
                end(request, now);
            }
        }

        void end(int request, int now) {
            int itsTenant = tenant[request];
            int latency = now - beginTick[request];
            endTick[request] = now;
            ended[itsTenant]++;
            latencySum[itsTenant] += latency;
            latencyMost[itsTenant] = Math.max(latencyMost[itsTenant], latency);
            if (deadline[request] != NONE && now > deadline[request]) {
                lateOnes[itsTenant]++;
            }
        }
    }

    /** How far the rebuild is; of a stripe the units of the disks in the bits of held are held. */
    private static final class Rebuild {
        static final int WAITING = 0;
        static final int COLLECTING = 1;
        static final int WRITING = 2;
        static final int REBUILT = 3;

        int failedDisk = NONE;
        final int[] state = new int[STRIPE_ROWS];
        final int[] held = new int[STRIPE_ROWS];
        /** The number of stripes that are collecting or writing. */
        int started = 0;
        int cached = 0;
        int rebuilt = 0;
        int completeTick = NONE;
        int saved = 0;
        int piggybacked = 0;
        int promisedTick = NONE;
        int promisedSince = 0;

        void clear() {
            failedDisk = NONE;
            Arrays.fill(state, WAITING);
            Arrays.fill(held, 0);
            started = 0;
            cached = 0;
            rebuilt = 0;
            completeTick = NONE;
            saved = 0;
            piggybacked = 0;
            promisedTick = NONE;
            promisedSince = 0;
        }

        void copyFrom(Rebuild other) {
            failedDisk = other.failedDisk;
            System.arraycopy(other.state, 0, state, 0, STRIPE_ROWS);
            System.arraycopy(other.held, 0, held, 0, STRIPE_ROWS);
            started = other.started;
            cached = other.cached;
            rebuilt = other.rebuilt;
            completeTick = other.completeTick;
            saved = other.saved;
            piggybacked = other.piggybacked;
            promisedTick = other.promisedTick;
            promisedSince = other.promisedSince;
        }

        boolean holds(int disk, int stripe) {
            return (held[stripe] >>> disk & 1) != 0;
        }

        void hold(int disk, int stripe) {
            held[stripe] |= 1 << disk;
            if (state[stripe] == WAITING) {
                cached++;
            }
        }

        void forget(int disk, int stripe) {
            held[stripe] &= ~(1 << disk);
            if (state[stripe] == WAITING) {
                cached--;
            }
        }

        boolean holdsAll(int stripe, int disks) {
            return Integer.bitCount(held[stripe]) == disks - 1;
        }

        void collect(int stripe) {
            cached -= Integer.bitCount(held[stripe]);
            state[stripe] = COLLECTING;
            started++;
        }

        void end(int stripe, int stripes, int now) {
            state[stripe] = REBUILT;
            held[stripe] = 0;
            started--;
            rebuilt++;
            if (rebuilt == stripes) {
                completeTick = now;
            }
        }

        int deadlineOf(int stripe, int stripes) {
            if (promisedTick == NONE || stripes <= 0) {
                return NONE;
            }
            return promisedSince + (promisedTick - promisedSince) * (stripe + 1) / stripes;
        }

        int unitsToRead(int disk, int stripes) {
            int units = 0;
            for (int stripe = 0; stripe < stripes; stripe++) {
                if ((state[stripe] == WAITING || state[stripe] == COLLECTING) && !holds(disk, stripe)) {
                    units++;
                }
            }
            return units;
        }
    }

    /** All that changes while time passes, and how it changes. */
    private static final class Engine {
        Plan plan;
        Trace trace;
        int nextLine = 0;
        int linesLost = 0;
        int now = 0;
        final Queues queues = new Queues();
        final Disks disks = new Disks();
        final Requests requests = new Requests();
        final Rebuild rebuild = new Rebuild();

        Engine(Plan plan, Trace trace) {
            this.plan = plan;
            this.trace = trace;
        }

        void beginAnew(Plan newPlan) {
            plan = newPlan;
            trace.count = 0;
            nextLine = 0;
            linesLost = 0;
            now = 0;
            queues.clear();
            disks.clear();
            requests.clear();
            rebuild.clear();
        }

        /** The plan and the trace do not change while time passes: both engines can use the same. */
        void copyFrom(Engine other) {
            plan = other.plan;
            trace = other.trace;
            nextLine = other.nextLine;
            linesLost = other.linesLost;
            now = other.now;
            queues.copyFrom(other.queues, other.requests.count);
            disks.copyFrom(other.disks);
            requests.copyFrom(other.requests);
            rebuild.copyFrom(other.rebuild);
        }

        void follow(Trace newTrace) {
            trace = newTrace;
            nextLine = 0;
        }

        int accept(int tenant, int unit, boolean isWrite, int deadline) {
            int stripe = plan.stripeWith(unit);
            int disk = plan.diskWith(unit);
            int request = requests.add(tenant, stripe, isWrite, deadline, now);
            if (isWrite) {
                queueWrite(request, disk);
                queueWrite(request, plan.parityOf(stripe));
            } else if (disk != rebuild.failedDisk) {
                queueFor(request, disk);
            } else if (rebuild.state[stripe] == Rebuild.REBUILT) {
                queueFor(request, plan.disks);
            } else {
                queueDegradedRead(request);
            }
            return request;
        }

        private void queueWrite(int request, int disk) {
            if (disk != rebuild.failedDisk) {
                queueFor(request, disk);
            } else if (rebuild.state[requests.stripe[request]] == Rebuild.REBUILT) {
                queueFor(request, plan.disks);
            }
        }

        private void queueDegradedRead(int request) {
            for (int disk = 0; disk < plan.disks; disk++) {
                if (disk != rebuild.failedDisk && !rebuild.holds(disk, requests.stripe[request])) {
                    queueFor(request, disk);
                }
            }
            if (requests.open[request] == 0) {
                requests.end(request, now);
            }
        }

        private void queueFor(int request, int disk) {
            requests.open[request]++;
            int queue = Queues.numberOf(disk, requests.tenant[request]);
            int operation = Queues.requestOperation(request, disk);
            queues.append(queue, operation, requests.deadline[request], plan, now);
        }

        private void queueForRebuild(int stripe, int disk) {
            int operation = Queues.rebuildOperation(stripe, disk);
            int deadline = rebuild.deadlineOf(stripe, plan.stripes);
            queues.append(Queues.numberOf(disk, 0), operation, deadline, plan, now);
        }

        int loseDisk(int disk) {
            rebuild.failedDisk = disk;
            int handled = 0;
            int served = disks.release(disk);
            if (served != NONE) {
                loseOperation(served);
                handled++;
            }
            for (int tenant = 0; tenant < plan.tenants; tenant++) {
                int queue = Queues.numberOf(disk, tenant);
                for (int left = queues.length[queue]; left > 0; left--) {
                    loseOperation(queues.removeFirst(queue));
                    handled++;
                }
            }
            startStripes();
            return handled;
        }

        /** The rebuild has no operation on a disk that is failing: it starts afterwards. */
        private void loseOperation(int operation) {
            if (Queues.isOfRebuild(operation)) {
                return;
            }
            int request = Queues.requestBehind(operation);
            if (requests.kind[request] == Requests.WRITE) {
                requests.endOperation(request, now);
            } else {
                requests.open[request]--;
                queueDegradedRead(request);
            }
        }

        /** Passes over the ticks at which nothing can happen. */
        void runTo(int target, boolean untilComplete) {
            for (int count = 0; count <= LAST_TICK && now < target; count++) {
                if (untilComplete && rebuild.completeTick != NONE) {
                    return;
                }
                now = nextEvent(target);
                for (int disk = 0; disk <= plan.disks; disk++) {
                    endService(disk);
                }
                acceptLines();
                startStripes();
                for (int disk = 0; disk <= plan.disks; disk++) {
                    choose(disk);
                }
            }
        }

        private int nextEvent(int target) {
            long next = target;
            if (nextLine < trace.count) {
                next = Math.min(next, trace.tick[nextLine]);
            }
            for (int disk = 0; disk <= plan.disks; disk++) {
                boolean isIdle = disks.operation[disk] == NONE;
                next = Math.min(next, isIdle ? queues.earliestChoice(disk, plan) : disks.endTick[disk]);
            }
            return (int) Math.max(next, now + 1);
        }

        private void endService(int disk) {
            if (disks.operation[disk] == NONE || disks.endTick[disk] != now) {
                return;
            }
            int operation = disks.release(disk);
            int stripe = requests.stripeBehind(operation);
            if (Queues.isOfRebuild(operation)) {
                if (disk == plan.disks) {
                    rebuild.end(stripe, plan.stripes, now);
                } else {
                    endRead(disk, stripe, true);
                }
                return;
            }
            int request = Queues.requestBehind(operation);
            if (requests.kind[request] == Requests.WRITE) {
                endWrite(disk, stripe);
            } else {
                endRead(disk, stripe, false);
            }
            requests.endOperation(request, now);
        }

        private void endRead(int disk, int stripe, boolean isOfRebuild) {
            boolean isSurviving = disk < plan.disks && disk != rebuild.failedDisk;
            if (rebuild.failedDisk == NONE || !isSurviving || rebuild.holds(disk, stripe)) {
                return;
            }
            if (rebuild.state[stripe] == Rebuild.COLLECTING) {
                rebuild.hold(disk, stripe);
                if (!isOfRebuild && queues.remove(Queues.numberOf(disk, 0), Queues.rebuildOperation(stripe, disk))) {
                    rebuild.saved++;
                }
                writeIfAllHeld(stripe);
            } else if (rebuild.state[stripe] == Rebuild.WAITING && rebuild.cached < plan.cache) {
                rebuild.hold(disk, stripe);
                rebuild.piggybacked++;
            }
        }

        private void endWrite(int disk, int stripe) {
            if (disk >= plan.disks || !rebuild.holds(disk, stripe)) {
                return;
            }
            if (rebuild.state[stripe] == Rebuild.WAITING) {
                rebuild.forget(disk, stripe);
            } else if (rebuild.state[stripe] == Rebuild.COLLECTING) {
                rebuild.forget(disk, stripe);
                queueForRebuild(stripe, disk);
            }
        }

        private void acceptLines() {
            for (; nextLine < trace.count && trace.tick[nextLine] <= now; nextLine++) {
                if (requests.count >= REQUEST_ROWS) {
                    linesLost++;
                } else {
                    accept(trace.tenant[nextLine], trace.unit[nextLine],
                            trace.isWrite[nextLine], trace.deadline[nextLine]);
                }
            }
        }

        private void startStripes() {
            if (rebuild.failedDisk == NONE) {
                return;
            }
            for (int stripe = 0; stripe < plan.stripes && rebuild.started < plan.window; stripe++) {
                if (rebuild.state[stripe] == Rebuild.WAITING) {
                    collect(stripe);
                }
            }
        }

        private void collect(int stripe) {
            rebuild.collect(stripe);
            for (int disk = 0; disk < plan.disks; disk++) {
                if (disk != rebuild.failedDisk && !rebuild.holds(disk, stripe)) {
                    queueForRebuild(stripe, disk);
                }
            }
            writeIfAllHeld(stripe);
        }

        private void writeIfAllHeld(int stripe) {
            if (rebuild.holdsAll(stripe, plan.disks)) {
                rebuild.state[stripe] = Rebuild.WRITING;
                queueForRebuild(stripe, plan.disks);
            }
        }

        private void choose(int disk) {
            if (disks.operation[disk] != NONE) {
                return;
            }
            for (int way = 0; way < WAYS; way++) {
                int tenant = queues.bestTenant(disk, way, plan, now);
                if (tenant != NONE) {
                    serveFirst(disk, tenant, way);
                    return;
                }
            }
        }

        private void serveFirst(int disk, int tenant, int way) {
            int queue = Queues.numberOf(disk, tenant);
            int operation = queues.removeFirst(queue);
            if (operation == NONE) {
                return;
            }
            disks.serve(disk, operation, requests.stripeBehind(operation), plan, now);
            disks.choices[tenant * WAYS + way]++;
            if (way != Disks.RESERVED && plan.reservation[tenant] > 0) {
                queues.credit(queue, plan.reservation[tenant]);
            }
        }
    }
}

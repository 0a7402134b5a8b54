/** The example that README.md shows. */
public final class Example {
    public static void main(String[] args) {
        RebuildScheduler x = new RebuildScheduler();
        // four disks; the rebuild has a reservation of 100, a weight of 10 and no limit; two tenants
        x.loadArray(feed(x, "disks 4 stripes 8 base 4 seek 16; rebuild 100 10 0 window 2 cache 4;\n"
                + "tenant 50 50 0; tenant 0 20 200; slack 10;"));
        // what comes by itself later: tenant 2 writes unit 7 at tick 5, tenant 1 reads unit 0 at tick 12
        x.loadTrace(feed(x, "at 5 2 writes 7; at 12 1 reads 0 by 40;"));

        int request = x.submit(1, 3, false, 30); // tenant 1 reads unit 3 by tick 30
        x.advance(10);
        System.out.println("request " + request + " finished at tick " + x.finishedAt(request));

        x.fail(1); // the rebuild starts
        x.promise(200); // its operations get deadlines
        System.out.println("forecast " + x.forecast() + ", by the reservation alone " + x.bound());
        x.advance(100);
        System.out.println("rebuilt " + x.rebuiltCount() + " stripes, complete at tick " + x.completedAt());
        System.out.println("tenant 1: " + x.finished(1) + " finished, worst latency " + x.worstLatency(1)
                + ", " + x.late(1) + " late");

        try {
            x.loadTrace(feed(x, "at 300 9 reads 0;")); // there is no tenant 9
        } catch (IllegalStateException e) {
            System.out.println("error " + x.errorCode() + " at byte " + x.errorPosition());
        }
    }

    /** Feeds a text of ASCII characters, with spaces behind it up to a multiple of 20; tells its length. */
    static int feed(RebuildScheduler x, String text) {
        int[] words = new int[(text.length() + 19) / 20 * 5];
        for (int i = 0; i < words.length * 4; i++) {
            words[i / 4] = words[i / 4] << 8 | (i < text.length() ? text.charAt(i) : ' ');
        }
        for (int i = 0; i < words.length; i += 5) {
            x.feed(words[i], words[i + 1], words[i + 2], words[i + 3], words[i + 4]);
        }
        return text.length();
    }
}

/** Promises 7 to 13: the array. */
public final class ArrayTest {
    public static void main(String[] args) {
        counts();
        places();
        placesOfManyDisks();
        shares();
        Check.end();
    }

    private static RebuildScheduler small() {
        return Check.loaded("disks 3 stripes 4 base 4 seek 16; rebuild 100 10 0 window 2 cache 2;"
                + "tenant 0 50 0; tenant 200 25 500;");
    }

    private static void counts() {
        RebuildScheduler x = small();
        Check.is("diskCount", x.diskCount(), 3);
        Check.is("stripeCount", x.stripeCount(), 4);
        Check.is("tenantCount", x.tenantCount(), 3);
        RebuildScheduler most = Check.loaded("disks 6 stripes 64 base 1 seek 0; rebuild 0 1 0 window 1 cache 0;"
                + "tenant 0 1 0;tenant 0 1 0;tenant 0 1 0;tenant 0 1 0;tenant 0 1 0;");
        Check.is("diskCount", most.diskCount(), 6);
        Check.is("stripeCount", most.stripeCount(), 64);
        Check.is("tenantCount", most.tenantCount(), 6);
    }

    private static void places() {
        RebuildScheduler x = small();
        int[] disks = {1, 2, 2, 0, 0, 1, 1, 2};
        for (int unit = 0; unit < 8; unit++) {
            Check.is("stripeOf " + unit, x.stripeOf(unit), unit / 2);
            Check.is("diskOf " + unit, x.diskOf(unit), disks[unit]);
        }
        int[] parities = {0, 1, 2, 0};
        for (int stripe = 0; stripe < 4; stripe++) {
            Check.is("parityDisk " + stripe, x.parityDisk(stripe), parities[stripe]);
        }
        for (int wrong : new int[] {-1, 8, Integer.MAX_VALUE, Integer.MIN_VALUE}) {
            Check.noElement("stripeOf", () -> x.stripeOf(wrong));
            Check.noElement("diskOf", () -> x.diskOf(wrong));
        }
        for (int wrong : new int[] {-1, 4, Integer.MAX_VALUE, Integer.MIN_VALUE}) {
            Check.noElement("parityDisk", () -> x.parityDisk(wrong));
        }
    }

    private static void placesOfManyDisks() {
        RebuildScheduler x = Check.loaded("disks 6 stripes 64 base 1 seek 0; rebuild 0 1 0 window 1 cache 0;");
        Check.is("stripeOf", x.stripeOf(319), 63);
        Check.is("parityDisk", x.parityDisk(63), 3);
        Check.is("diskOf", x.diskOf(315), 4);
        Check.is("diskOf", x.diskOf(316), 5);
        Check.is("diskOf", x.diskOf(317), 0);
        Check.is("diskOf", x.diskOf(319), 2);
        Check.noElement("stripeOf", () -> x.stripeOf(320));
    }

    private static void shares() {
        RebuildScheduler x = small();
        int[][] due = {{100, 10, 0}, {0, 50, 0}, {200, 25, 500}};
        for (int tenant = 0; tenant < 3; tenant++) {
            for (int what = 0; what < 3; what++) {
                Check.is("share", x.share(tenant, what), due[tenant][what]);
            }
        }
        Check.noElement("tenant -1", () -> x.share(-1, 0));
        Check.noElement("tenant 3, and what is wrong too", () -> x.share(3, 3));
        Check.noArgument("what 3", () -> x.share(2, 3));
        Check.noArgument("what -1", () -> x.share(0, -1));
    }
}

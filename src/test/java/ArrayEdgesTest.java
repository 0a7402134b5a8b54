/** The boundary cases of promises 7 to 13, sentence by sentence. */
public final class ArrayEdgesTest {
    private static final int[] FAR = {Integer.MIN_VALUE, Integer.MIN_VALUE + 1, -2, -1, 400, 65536, Integer.MAX_VALUE};

    public static void main(String[] args) {
        countsWithoutAnArray();
        leastAndGreatestArray();
        everyUnitOfEveryArray();
        noSuchUnit();
        noSuchStripe();
        sharesAtTheirEdges();
        noSuchTenant();
        whatIsOutOfRange();
        newArrayHasItsOwnEdges();
        Check.end();
    }

    private static RebuildScheduler array(int disks, int stripes, int tenants) {
        StringBuilder text = new StringBuilder("disks " + disks + " stripes " + stripes
                + " base 1 seek 0; rebuild 0 1 0 window 1 cache 0;");
        for (int i = 1; i < tenants; i++) {
            text.append("tenant ").append(i).append(" 1 0;");
        }
        return Check.loaded(text.toString());
    }

    private static void counts(RebuildScheduler x, int disks, int stripes, int tenants) {
        Check.is("diskCount", x.diskCount(), disks);
        Check.is("stripeCount", x.stripeCount(), stripes);
        Check.is("tenantCount", x.tenantCount(), tenants);
    }

    private static void countsWithoutAnArray() {
        Check.about("0 without an array");
        RebuildScheduler x = new RebuildScheduler();
        counts(x, 0, 0, 0);
        x.feed(0, 0, 0, 0, 0);
        Check.noState("an error", () -> x.loadArray(20));
        counts(x, 0, 0, 0);
    }

    private static void leastAndGreatestArray() {
        Check.about("An array has D disks (3 to 6) and S stripes (1 to 64); the other tenants, at most 5");
        counts(array(3, 1, 1), 3, 1, 1);
        counts(array(6, 64, 6), 6, 64, 6);
        counts(array(3, 64, 2), 3, 64, 2);
        counts(array(6, 1, 5), 6, 1, 5);
    }

    private static void everyUnitOfEveryArray() {
        Check.about("the disk (parity disk + 1 + u modulo (D - 1)) modulo D");
        for (int disks = 3; disks <= 6; disks++) {
            for (int stripes : new int[] {1, disks, 64}) {
                RebuildScheduler x = array(disks, stripes, 1);
                int parity = 0;
                int unit = 0;
                for (int stripe = 0; stripe < stripes; stripe++) {
                    Check.is("parityDisk " + stripe, x.parityDisk(stripe), parity);
                    // the data units follow their parity round the disks
                    int disk = parity;
                    for (int i = 0; i < disks - 1; i++) {
                        disk = disk == disks - 1 ? 0 : disk + 1;
                        Check.is("diskOf " + unit, x.diskOf(unit), disk);
                        Check.is("stripeOf " + unit, x.stripeOf(unit), stripe);
                        unit++;
                    }
                    parity = parity == disks - 1 ? 0 : parity + 1;
                }
                noUnit(x, unit);
            }
        }
    }

    private static void noUnit(RebuildScheduler x, int unit) {
        Check.noElement("stripeOf " + unit, () -> x.stripeOf(unit));
        Check.noElement("diskOf " + unit, () -> x.diskOf(unit));
    }

    private static void noSuchUnit() {
        Check.about("if there is no such unit");
        RebuildScheduler x = array(3, 1, 1);
        noUnit(x, 2);
        noUnit(x, 3);
        for (int far : FAR) {
            noUnit(x, far);
            noUnit(array(6, 64, 1), far);
        }
        noUnit(array(6, 64, 1), 320);
        noUnit(array(3, 64, 1), 128);
    }

    private static void noSuchStripe() {
        Check.about("if there is no such stripe");
        RebuildScheduler x = array(3, 1, 1);
        RebuildScheduler large = array(6, 64, 1);
        Check.is("stripe 0", x.parityDisk(0), 0);
        Check.noElement("stripe 1", () -> x.parityDisk(1));
        Check.is("stripe 63", large.parityDisk(63), 3);
        Check.noElement("stripe 64", () -> large.parityDisk(64));
        for (int far : FAR) {
            Check.noElement("parityDisk " + far, () -> x.parityDisk(far));
            Check.noElement("parityDisk " + far, () -> large.parityDisk(far));
        }
    }

    private static void share(RebuildScheduler x, int tenant, int reservation, int weight, int limit) {
        Check.is("reservation", x.share(tenant, 0), reservation);
        Check.is("weight", x.share(tenant, 1), weight);
        Check.is("limit", x.share(tenant, 2), limit);
    }

    private static void sharesAtTheirEdges() {
        Check.about("a reservation (0 to 1000), a weight (1 to 100) and a limit (0 to 1000; 0 means none)");
        RebuildScheduler x = Check.loaded("disks 3 stripes 1 base 1 seek 0; rebuild 0 1 0 window 1 cache 0;"
                + "tenant 1000 100 1000; tenant 1000 1 0; tenant 0 100 1; tenant 0 1 1000; tenant 1 1 1;");
        share(x, 0, 0, 1, 0);
        share(x, 1, 1000, 100, 1000);
        share(x, 2, 1000, 1, 0);
        share(x, 3, 0, 100, 1);
        share(x, 4, 0, 1, 1000);
        share(x, 5, 1, 1, 1);
    }

    private static void noSuchTenant() {
        Check.about("if there is no such tenant");
        RebuildScheduler x = array(3, 1, 1);
        RebuildScheduler crowded = array(3, 1, 6);
        Check.is("the last tenant", crowded.share(5, 0), 5);
        Check.noElement("tenant 6", () -> crowded.share(6, 0));
        Check.noElement("tenant 1", () -> x.share(1, 0));
        for (int far : FAR) {
            Check.noElement("tenant " + far, () -> x.share(far, 0));
            Check.noElement("tenant " + far + ", and what is wrong too", () -> crowded.share(far, 3));
        }
    }

    private static void whatIsOutOfRange() {
        Check.about("if what is out of range");
        RebuildScheduler x = array(3, 1, 2);
        Check.noArgument("what 3", () -> x.share(1, 3));
        for (int far : FAR) {
            Check.noArgument("what " + far, () -> x.share(0, far));
        }
    }

    private static void newArrayHasItsOwnEdges() {
        Check.about("Without an error, it replaces the old one");
        RebuildScheduler x = array(6, 64, 6);
        x.loadArray(Check.feed(x, "disks 3 stripes 1 base 1 seek 0; rebuild 0 1 0 window 1 cache 0;"));
        counts(x, 3, 1, 1);
        noUnit(x, 2);
        Check.noElement("stripe 1", () -> x.parityDisk(1));
        Check.noElement("tenant 1", () -> x.share(1, 0));
        Check.noElement("disk 4", () -> x.serving(4));
        Check.is("the spare disk is 3", x.serving(3), -1);
        x.loadArray(Check.feed(x, "disks 6 stripes 64 base 1 seek 0; rebuild 0 1 0 window 1 cache 0; tenant 7 1 0;"));
        counts(x, 6, 64, 2);
        Check.is("unit 319", x.stripeOf(319), 63);
        Check.is("tenant 1", x.share(1, 0), 7);
        Check.noElement("tenant 2 of the first array", () -> x.share(2, 0));
    }
}

/** Promises 14 to 20: letter, about, bucket, ofFlow, out, ordered, told. */
public final class ToldTest {
    private static final int NONE = -6, UNKNOWN = -1, OUTSIDE = -2;
    private static final int[] ODD = {Integer.MIN_VALUE, -7, -1, 1000, Integer.MAX_VALUE};

    public static void main(String[] args) {
        promise14Letter();
        promise15About();
        promise16Bucket();
        promise17OfFlow();
        promise18Out();
        promise19Ordered();
        promise20Told();
        Check.end();
    }

    /**
     * At time 12: of flow 0 two are out and one is lost by link 0; of flow 2 one is on its way by
     * link 2; of flow 1 one is on its way by link 1, one queued there and one held with bucket 1,
     * which is to move to link 2.
     */
    private static BundleLinks some() {
        BundleLinks x = new BundleLinks();
        x.link(1, 5);
        x.link(1, 10);
        x.link(2, 3);
        x.flow(10);
        x.flow(20);
        x.flow(30);
        x.pin(2, 6);
        x.tick(2);
        x.move(1, 1, 0);
        x.move(6, 2, 0);
        x.send(0, 2);
        x.tick(8);
        x.send(2, 1);
        x.tick(1);
        x.send(0, 1);
        x.fail(0);
        x.send(1, 2);
        x.tick(1);
        x.move(1, 2, 1);
        x.send(1, 1);
        return x;
    }

    private static void promise14Letter() {
        BundleLinks x = some();
        Check.dueAll("14 out, first", Check.letter(x, 0), 0, 0, 0, 4, 0, 2, 3, 8, 8);
        Check.dueAll("14 out, second", Check.letter(x, 1), 0, 1, 0, 4, 0, 2, 4, 9, 9);
        Check.dueAll("14 on its way, by 2", Check.letter(x, 2), 2, 0, 6, 2, 2, 10, 11, 14, NONE);
        Check.dueAll("14 lost", Check.letter(x, 3), 0, 2, 0, 5, 0, 11, NONE, NONE, 11);
        Check.dueAll("14 on its way, by 1", Check.letter(x, 4), 1, 0, 1, 2, 1, 11, 12, 22, NONE);
        Check.dueAll("14 queued", Check.letter(x, 5), 1, 1, 1, 1, 1, 11, NONE, NONE, NONE);
        Check.dueAll("14 held", Check.letter(x, 6), 1, 2, 1, 0, NONE, 12, NONE, NONE, NONE);
        for (int odd : ODD) {
            Check.due("14 no such letter", x.letter(odd, 0), UNKNOWN);
            Check.due("14 no such what", x.letter(0, odd), OUTSIDE);
            Check.due("14 unknown comes before outside", x.letter(odd, odd), UNKNOWN);
        }
        Check.due("14 letter 7", x.letter(7, 0), UNKNOWN);
        Check.due("14 what 9", x.letter(0, 9), OUTSIDE);
    }

    private static void promise15About() {
        BundleLinks x = some();
        Check.dueAll("15 about 0", Check.about(x, 0), 1, 5, 0, 0, 0, 0, 0, 2);
        // Links 1 and 2 had buckets 1 and 6; of link 0's, 0, 3 and 5 went to 1, and 2, 4 and 7 to 2.
        Check.dueAll("15 about 1", Check.about(x, 1), 1, 10, 1, 1, 1, 4, 30, 1);
        Check.dueAll("15 about 2", Check.about(x, 2), 2, 3, 1, 0, 1, 4, 30, 1);
        for (int odd : ODD) {
            Check.due("15 no such link", x.about(odd, 0), UNKNOWN);
            Check.due("15 no such what", x.about(0, odd), OUTSIDE);
            Check.due("15 unknown comes before outside", x.about(odd, odd), UNKNOWN);
        }
        Check.due("15 link 3", x.about(3, 0), UNKNOWN);
        Check.due("15 what 8", x.about(0, 8), OUTSIDE);
    }

    private static void promise16Bucket() {
        BundleLinks x = new BundleLinks();
        x.link(1, 9);
        x.link(1, 2);
        x.flow(5);
        x.flow(6);
        x.flow(7);
        x.pin(2, 0);
        Check.dueAll("16 on its link", Check.bucket(x, 0), 0, NONE, 0, 0, 12, 0);
        x.send(0, 1);
        x.move(0, 1, 1);
        x.send(2, 3);
        Check.dueAll("16 holds", Check.bucket(x, 0), 0, 1, 1, 3, 12, 0);
        Check.dueAll("16 another", Check.bucket(x, 1), 0, NONE, 0, 0, 6, 0);
        x.least(1000);
        Check.due("16 least moves none", x.bucket(1, 5), 0);
        x.fail(0);
        Check.dueAll("16 failing is no move", Check.bucket(x, 1), 1, NONE, 0, 0, 6, 0);
        x.back(0);
        x.move(1, 0, 0);
        x.move(1, 1, 1);
        Check.due("16 moved twice", x.bucket(1, 5), 2);
        for (int odd : ODD) {
            Check.due("16 no such bucket", x.bucket(odd, 0), UNKNOWN);
            Check.due("16 no such what", x.bucket(0, odd), OUTSIDE);
            Check.due("16 unknown comes before outside", x.bucket(odd, odd), UNKNOWN);
        }
        Check.due("16 bucket 8", x.bucket(8, 0), UNKNOWN);
        Check.due("16 what 6", x.bucket(7, 6), OUTSIDE);
    }

    private static void promise17OfFlow() {
        BundleLinks x = some();
        Check.dueAll("17 flow 0", Check.ofFlow(x, 0), 10, 0, 3, 2, 1, 0);
        Check.dueAll("17 flow 1", Check.ofFlow(x, 1), 20, 1, 3, 0, 0, 0);
        Check.dueAll("17 flow 2", Check.ofFlow(x, 2), 30, 6, 1, 0, 0, 1);
        for (int odd : ODD) {
            Check.due("17 no such flow", x.ofFlow(odd, 0), UNKNOWN);
            Check.due("17 no such what", x.ofFlow(0, odd), OUTSIDE);
            Check.due("17 unknown comes before outside", x.ofFlow(odd, odd), UNKNOWN);
        }
        Check.due("17 flow 3", x.ofFlow(3, 0), UNKNOWN);
        Check.due("17 what 6", x.ofFlow(0, 6), OUTSIDE);
    }

    private static void promise18Out() {
        BundleLinks x = some();
        Check.due("18 first", x.out(0), 0);
        Check.due("18 second", x.out(1), 1);
        Check.due("18 none yet", x.out(2), NONE);
        x.tick(2);
        Check.due("18 third", x.out(2), 2);
        Check.due("18 lost ones come never", x.out(3), NONE);
        for (int odd : ODD) Check.due("18 none", x.out(odd), NONE);
        x.tick(100);
        int[] due = {0, 1, 2, 4, 5, 6, NONE};
        for (int i = 0; i < due.length; i++) Check.due("18 all but the lost, " + i, x.out(i), due[i]);
    }

    private static void promise19Ordered() {
        BundleLinks x = some();
        for (int f = 0; f < 3; f++) Check.due("19 in order", x.ordered(f), 1);
        x.tick(100);
        for (int f = 0; f < 3; f++) Check.due("19 in order at the end", x.ordered(f), 1);
        Check.due("19 flow 3", x.ordered(3), UNKNOWN);
        for (int odd : ODD) Check.due("19 no such flow", x.ordered(odd), UNKNOWN);
    }

    private static void promise20Told() {
        BundleLinks x = some();
        Check.dueAll("20 told", Check.told(x), 12, 3, 3, 7, 1, 1, 2, 0, 2, 1, 0);
        x.tick(100);
        Check.dueAll("20 at the end", Check.told(x), 112, 3, 3, 7, 0, 0, 0, 0, 6, 1, 0);
        x.numbers(true);
        Check.due("20 numbers", x.told(10), 1);
        for (int odd : ODD) Check.due("20 no such what", x.told(odd), OUTSIDE);
        Check.due("20 what 11", x.told(11), OUTSIDE);
    }
}

/** Promises 21 to 23: even, least, plan. */
public final class EvennessTest {
    private static final int NONE = -6, UNKNOWN = -1, OUTSIDE = -2, STATE = -3;

    public static void main(String[] args) {
        promise21Even();
        promise21SpeedsAndLinksUp();
        promise21Refusals();
        promise22Least();
        promise22LesserLinksFirst();
        promise22AllMove();
        promise22NoPlan();
        promise22LinksUpOnly();
        promise22Refusals();
        promise23Plan();
        promise23PlanStays();
        Check.end();
    }

    private static BundleLinks withFlows(int... rates) {
        BundleLinks x = new BundleLinks();
        for (int rate : rates) x.flow(rate);
        return x;
    }

    private static void promise21Even() {
        BundleLinks x = withFlows(50, 50);
        x.link(1, 1);
        Check.due("21 one link", x.even(0), 1);
        x.link(1, 1);
        // 100 times 2 times 100 is not above (100 and k) times 100 from k 100 on.
        Check.due("21 at 99", x.even(99), 0);
        Check.due("21 at 100", x.even(100), 1);
        Check.due("21 at 1000", x.even(1000), 1);
        x.move(0, 1, 0);
        Check.due("21 half and half", x.even(0), 1);
        x.rate(0, 51);
        // 51 times 2 times 100 against (100 and k) times 101.
        Check.due("21 one more", x.even(0), 0);
        Check.due("21 one more, within 1", x.even(1), 1);
        x.rate(0, 0);
        x.rate(1, 0);
        Check.due("21 no load", x.even(0), 1);
    }

    private static void promise21SpeedsAndLinksUp() {
        BundleLinks x = withFlows(20, 80);
        x.link(1, 1);
        x.link(4, 1);
        x.link(8, 1);
        x.move(1, 1, 0);
        Check.due("21 link 2 has nothing", x.even(0), 0);
        // Of 13 speeds: 80 times 13 times 100 against (100 and k) times 100 times 4; link 0 likewise.
        Check.due("21 within 159", x.even(159), 0);
        Check.due("21 within 160", x.even(160), 1);
        x.fail(2);
        Check.due("21 it is not up", x.even(0), 1);
        x.back(2);
        Check.due("21 it is up again", x.even(0), 0);
        x.fail(0);
        x.fail(1);
        Check.due("21 all on link 2", x.even(0), 1);
    }

    private static void promise21Refusals() {
        BundleLinks x = withFlows(1);
        Check.due("21 no link", x.even(0), STATE);
        Check.due("21 outside comes before state", x.even(1001), OUTSIDE);
        x.link(1, 1);
        Check.due("21 below", x.even(-1), OUTSIDE);
        Check.due("21 above", x.even(1001), OUTSIDE);
        Check.due("21 most int", x.even(Integer.MAX_VALUE), OUTSIDE);
        x.fail(0);
        Check.due("21 none is up", x.even(1000), STATE);
    }

    private static void promise22Least() {
        BundleLinks x = withFlows(40, 30, 20, 10);
        x.link(1, 3);
        Check.due("22 one link", x.least(0), 0);
        x.link(1, 3);
        Check.due("22 all on one, within 100", x.least(100), 0);
        // Fifty at most on each: 40 and 10, or 30 and 20 go; 0 stays if it can.
        Check.due("22 within 0", x.least(0), 2);
        Check.dueAll("22 plan within 0", Check.plan(x), 0, 1, 1, 0, 0, 0, 0, 0);
        // Seventy at most on each: 40 alone goes, or 30.
        Check.due("22 within 40", x.least(40), 1);
        Check.dueAll("22 plan within 40", Check.plan(x), 0, 1, 0, 0, 0, 0, 0, 0);
        // Sixty-nine and a half: 30 alone is too little.
        Check.due("22 within 39", x.least(39), 1);
        Check.dueAll("22 plan within 39", Check.plan(x), 1, 0, 0, 0, 0, 0, 0, 0);
        for (int b = 0; b < 8; b++) Check.due("22 none has moved", x.bucket(b, 0), 0);
        for (int b = 4; b < 8; b++) x.move(b, 1, 0);
        Check.due("22 buckets without load", x.least(39), 1);
        Check.dueAll("22 they stay", Check.plan(x), 1, 0, 0, 0, 1, 1, 1, 1);
    }

    private static void promise22LesserLinksFirst() {
        BundleLinks x = withFlows(10, 10, 10);
        x.link(1, 1);
        x.link(1, 1);
        x.link(1, 1);
        for (int b = 0; b < 3; b++) x.move(b, 2, 0);
        Check.due("22 two go", x.least(0), 2);
        Check.dueAll("22 the lesser links first", Check.plan(x), 0, 1, 2, 0, 0, 0, 0, 0);
        x.move(0, 1, 0);
        Check.due("22 one goes", x.least(0), 1);
        Check.dueAll("22 the fewest before the lesser", Check.plan(x), 1, 0, 2, 0, 0, 0, 0, 0);
        x.move(1, 0, 0);
        Check.due("22 none goes", x.least(0), 0);
        Check.dueAll("22 as it is", Check.plan(x), 1, 0, 2, 0, 0, 0, 0, 0);
    }

    /** A slow link that may not have even one of eight like buckets. */
    private static void promise22AllMove() {
        BundleLinks x = withFlows(10, 10, 10, 10, 10, 10, 10, 10);
        x.link(1, 1);
        x.link(8, 1);
        x.link(8, 1);
        Check.due("22 all eight go", x.least(10), 8);
        Check.dueAll("22 four to each", Check.plan(x), 1, 1, 1, 1, 2, 2, 2, 2);
    }

    private static void promise22NoPlan() {
        BundleLinks x = withFlows(10);
        x.link(1, 1);
        x.link(1, 1);
        Check.due("22 one bucket, two links", x.least(99), NONE);
        Check.due("22 no plan yet", x.plan(0), STATE);
        Check.due("22 within 100", x.least(100), 0);
        BundleLinks y = new BundleLinks();
        for (int f = 0; f < 16; f++) y.flow(100);
        for (int l = 0; l < 4; l++) y.link(8, 1);
        Check.due("22 eight over four", y.least(0), 6);
        Check.dueAll("22 two on each", Check.plan(y), 0, 0, 1, 1, 2, 2, 3, 3);
        y.rate(0, 99);
        Check.due("22 never even", y.least(0), NONE);
        y.rate(8, 98);
        y.rate(1, 99);
        Check.due("22 nor so", y.least(0), NONE);
    }

    private static void promise22LinksUpOnly() {
        BundleLinks x = withFlows(10, 10);
        x.link(1, 1);
        x.link(1, 1);
        x.link(1, 1);
        x.fail(1);
        Check.due("22 one goes", x.least(0), 1);
        Check.dueAll("22 to a link that is up", Check.plan(x), 0, 2, 0, 0, 0, 0, 0, 0);
        x.send(0, 1);
        x.move(0, 2, 0);
        Check.due("22 to move is not there", x.least(0), 1);
        x.fail(0);
        Check.due("22 all on link 2", x.least(0), 0);
        Check.dueAll("22 plan", Check.plan(x), 2, 2, 2, 2, 2, 2, 2, 2);
    }

    private static void promise22Refusals() {
        BundleLinks x = withFlows(1);
        Check.due("22 no link", x.least(0), STATE);
        Check.due("22 outside comes before state", x.least(-1), OUTSIDE);
        x.link(1, 1);
        Check.due("22 below", x.least(-1), OUTSIDE);
        Check.due("22 above", x.least(1001), OUTSIDE);
        Check.due("22 1000", x.least(1000), 0);
        x.fail(0);
        Check.due("22 none is up", x.least(0), STATE);
    }

    private static void promise23Plan() {
        BundleLinks x = withFlows(1);
        Check.due("23 none yet", x.plan(0), STATE);
        Check.due("23 unknown comes before state", x.plan(8), UNKNOWN);
        x.link(1, 1);
        x.even(0);
        Check.due("23 even makes none", x.plan(0), STATE);
        x.least(0);
        Check.due("23 bucket 0", x.plan(0), 0);
        Check.due("23 bucket 7", x.plan(7), 0);
        Check.due("23 bucket 8", x.plan(8), UNKNOWN);
        Check.due("23 bucket -1", x.plan(-1), UNKNOWN);
        Check.due("23 least int", x.plan(Integer.MIN_VALUE), UNKNOWN);
    }

    private static void promise23PlanStays() {
        BundleLinks x = withFlows(10, 10);
        x.link(1, 1);
        x.link(1, 1);
        x.least(0);
        x.rate(0, 20);
        x.move(0, 1, 0);
        Check.due("23 told none", x.least(0), NONE);
        Check.due("23 refused", x.least(1001), OUTSIDE);
        Check.dueAll("23 the latest that told a number", Check.plan(x), 0, 1, 0, 0, 0, 0, 0, 0);
        x.fail(1);
        x.fail(0);
        Check.due("23 no link is up", x.least(0), STATE);
        Check.dueAll("23 still the same", Check.plan(x), 0, 1, 0, 0, 0, 0, 0, 0);
        x.back(1);
        x.least(0);
        Check.dueAll("23 a new one", Check.plan(x), 1, 1, 1, 1, 1, 1, 1, 1);
    }
}

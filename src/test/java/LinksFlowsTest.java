/** Promises 1 to 7: a new object, link, flow, rate, pin, hash, numbers. */
public final class LinksFlowsTest {
    private static final int NONE = -6, UNKNOWN = -1, OUTSIDE = -2, STATE = -3, FULL = -4;

    public static void main(String[] args) {
        promise1NewObject();
        promise2Link();
        promise2LinkTakesBucketsOnNone();
        promise3Flow();
        promise4Rate();
        promise5Pin();
        promise5PinState();
        promise6Hash();
        promise7Numbers();
        Check.end();
    }

    private static void promise1NewObject() {
        BundleLinks x = new BundleLinks();
        Check.dueAll("1 told", Check.told(x), 0, 0, 0, 0, 0, 0, 0, 0, 0, 0, 0);
        for (int b = 0; b < 8; b++) {
            Check.dueAll("1 bucket " + b, Check.bucket(x, b), NONE, NONE, 0, 0, 0, 0);
            Check.due("1 plan", x.plan(b), STATE);
        }
        Check.due("1 about", x.about(0, 0), UNKNOWN);
        Check.due("1 ofFlow", x.ofFlow(0, 0), UNKNOWN);
        Check.due("1 letter", x.letter(0, 0), UNKNOWN);
        Check.due("1 out", x.out(0), NONE);
        Check.due("1 even", x.even(0), STATE);
        Check.due("1 least", x.least(0), STATE);
        for (int f = 0; f < 16; f++) x.flow(1);
        for (int f = 0; f < 16; f++) Check.due("1 A 1, C 0", x.ofFlow(f, 1), f % 8);
    }

    private static void promise2Link() {
        BundleLinks x = new BundleLinks();
        Check.due("2 speed 0", x.link(0, 1), OUTSIDE);
        Check.due("2 speed 9", x.link(9, 1), OUTSIDE);
        Check.due("2 delay 0", x.link(1, 0), OUTSIDE);
        Check.due("2 delay 31", x.link(1, 31), OUTSIDE);
        Check.due("2 least int", x.link(Integer.MIN_VALUE, 1), OUTSIDE);
        Check.due("2 most int", x.link(1, Integer.MAX_VALUE), OUTSIDE);
        Check.due("2 none was made", x.told(1), 0);
        Check.due("2 first", x.link(1, 30), 0);
        Check.due("2 second", x.link(8, 1), 1);
        Check.due("2 third", x.link(4, 15), 2);
        Check.due("2 fourth", x.link(1, 1), 3);
        Check.due("2 fifth", x.link(1, 1), FULL);
        Check.due("2 outside comes before full", x.link(1, 31), OUTSIDE);
        Check.due("2 four", x.told(1), 4);
        Check.dueAll("2 about 0", Check.about(x, 0), 1, 30, 1, 0, 0, 8, 0, 0);
        Check.dueAll("2 about 1", Check.about(x, 1), 8, 1, 1, 0, 0, 0, 0, 0);
        Check.dueAll("2 about 2", Check.about(x, 2), 4, 15, 1, 0, 0, 0, 0, 0);
    }

    private static void promise2LinkTakesBucketsOnNone() {
        BundleLinks x = new BundleLinks();
        x.flow(7);
        x.flow(9);
        x.send(1, 1);
        x.send(0, 2);
        Check.due("2 held without a link", x.told(4), 3);
        x.link(1, 2);
        Check.due("2 taken in", x.about(0, 5), 8);
        Check.due("2 load", x.about(0, 6), 16);
        Check.due("2 held is queued", x.about(0, 3), 3);
        x.fail(0);
        Check.due("2 on none", x.bucket(0, 0), NONE);
        x.send(0, 1);
        Check.due("2 a link made takes them", x.link(2, 2), 1);
        Check.due("2 bucket is on it", x.bucket(0, 0), 1);
        Check.due("2 held is queued there", x.letter(3, 3), 1);
        Check.due("2 link of the letter", x.letter(3, 4), 1);
    }

    private static void promise3Flow() {
        BundleLinks x = new BundleLinks();
        Check.due("3 below", x.flow(-1), OUTSIDE);
        Check.due("3 above", x.flow(101), OUTSIDE);
        Check.due("3 none was made", x.told(2), 0);
        Check.due("3 rate 0", x.flow(0), 0);
        Check.due("3 rate 100", x.flow(100), 1);
        Check.dueAll("3 of flow 0", Check.ofFlow(x, 0), 0, 0, 0, 0, 0, 0);
        Check.dueAll("3 of flow 1", Check.ofFlow(x, 1), 100, 1, 0, 0, 0, 0);
        for (int f = 2; f < 16; f++) Check.due("3 number", x.flow(f), f);
        Check.due("3 full", x.flow(1), FULL);
        Check.due("3 outside comes before full", x.flow(101), OUTSIDE);
        Check.due("3 sixteen", x.told(2), 16);
    }

    private static void promise4Rate() {
        BundleLinks x = new BundleLinks();
        Check.due("4 no flow", x.rate(0, 1), UNKNOWN);
        x.link(1, 1);
        x.flow(10);
        x.flow(20);
        Check.due("4 which it was", x.rate(0, 100), 10);
        Check.due("4 which it was then", x.rate(0, 0), 100);
        Check.due("4 now", x.ofFlow(0, 0), 0);
        Check.due("4 the other", x.ofFlow(1, 0), 20);
        Check.due("4 load", x.about(0, 6), 20);
        Check.due("4 below", x.rate(1, -1), OUTSIDE);
        Check.due("4 above", x.rate(1, 101), OUTSIDE);
        Check.due("4 unknown comes before outside", x.rate(2, 101), UNKNOWN);
        Check.due("4 flow -1", x.rate(-1, 1), UNKNOWN);
        Check.due("4 not changed", x.ofFlow(1, 0), 20);
    }

    private static void promise5Pin() {
        BundleLinks x = new BundleLinks();
        x.flow(10);
        x.flow(20);
        x.flow(40);
        Check.due("5 bucket ahead", x.pin(1, 7), 1);
        Check.due("5 bucket now", x.ofFlow(1, 1), 7);
        Check.due("5 pinned", x.ofFlow(1, 5), 1);
        Check.due("5 rates there", x.bucket(7, 4), 20);
        Check.due("5 rates where it was", x.bucket(1, 4), 0);
        x.hash(7, 7);
        Check.due("5 hash is not for the pinned", x.ofFlow(1, 1), 7);
        Check.due("5 pinned to 0", x.pin(1, 0), 7);
        Check.due("5 to 0 is pinned", x.ofFlow(1, 5), 1);
        Check.due("5 not pinned any more", x.pin(1, -1), 0);
        Check.due("5 by the hash", x.ofFlow(1, 1), 6);
        Check.due("5 not pinned", x.ofFlow(1, 5), 0);
        Check.due("5 was not pinned", x.pin(2, -1), (2 * 7 + 7) % 8);
        Check.due("5 no such flow", x.pin(3, 0), UNKNOWN);
        Check.due("5 flow -1", x.pin(-1, 0), UNKNOWN);
        Check.due("5 bucket 8", x.pin(1, 8), OUTSIDE);
        Check.due("5 bucket -2", x.pin(1, -2), OUTSIDE);
        Check.due("5 unknown comes before outside", x.pin(3, 8), UNKNOWN);
    }

    private static void promise5PinState() {
        BundleLinks x = new BundleLinks();
        x.flow(10);
        x.flow(20);
        x.send(0, 1);
        Check.due("5 held", x.pin(0, 1), STATE);
        Check.due("5 outside comes before state", x.pin(0, 8), OUTSIDE);
        Check.due("5 letters of another flow", x.pin(1, 3), 1);
        x.link(1, 2);
        Check.due("5 queued", x.pin(0, 1), STATE);
        x.tick(1);
        Check.due("5 on its way", x.pin(0, 1), STATE);
        Check.due("5 not changed", x.ofFlow(0, 1), 0);
        x.tick(2);
        Check.due("5 out", x.pin(0, 1), 0);
        x.send(0, 1);
        x.fail(0);
        Check.due("5 lost", x.pin(0, 2), 1);
    }

    private static void promise6Hash() {
        BundleLinks x = new BundleLinks();
        for (int f = 0; f < 16; f++) x.flow(f);
        Check.due("6 answers 1", x.hash(3, 5), 1);
        for (int f = 0; f < 16; f++) Check.due("6 by A and C", x.ofFlow(f, 1), (3 * f + 5) % 8);
        Check.due("6 A -1", x.hash(-1, 0), OUTSIDE);
        Check.due("6 A 8", x.hash(8, 0), OUTSIDE);
        Check.due("6 C -1", x.hash(0, -1), OUTSIDE);
        Check.due("6 C 8", x.hash(0, 8), OUTSIDE);
        Check.due("6 not changed", x.ofFlow(1, 1), 0);
        Check.due("6 A 0, C 7", x.hash(0, 7), 1);
        Check.due("6 all in one", x.bucket(7, 4), 120);
        Check.due("6 A 7, C 0", x.hash(7, 0), 1);
        Check.due("6 flow 15", x.ofFlow(15, 1), 105 % 8);
        x.send(0, 1);
        Check.due("6 held", x.hash(1, 0), STATE);
        Check.due("6 outside comes before state", x.hash(8, 0), OUTSIDE);
        x.link(1, 1);
        Check.due("6 queued", x.hash(1, 0), STATE);
        x.tick(1);
        Check.due("6 on its way", x.hash(1, 0), STATE);
        Check.due("6 still as it was", x.ofFlow(15, 1), 1);
        x.tick(1);
        Check.due("6 out", x.hash(1, 0), 1);
        x.send(0, 1);
        x.fail(0);
        Check.due("6 lost", x.hash(1, 1), 1);
    }

    private static void promise7Numbers() {
        BundleLinks x = new BundleLinks();
        Check.due("7 off at first", x.numbers(false), 0);
        Check.due("7 on", x.numbers(true), 0);
        Check.due("7 told", x.told(10), 1);
        Check.due("7 were on", x.numbers(true), 1);
        Check.due("7 off", x.numbers(false), 1);
        Check.due("7 told off", x.told(10), 0);
        x.numbers(true);
        x.link(1, 5);
        x.link(1, 1);
        x.flow(1);
        x.send(0, 1);
        Check.due("7 queued", x.numbers(true), STATE);
        x.tick(1);
        x.move(0, 1, 2);
        x.send(0, 1);
        x.tick(3);
        Check.due("7 one waits", x.told(7), 1);
        Check.due("7 waits", x.numbers(false), STATE);
        Check.due("7 still on", x.told(10), 1);
        x.tick(2);
        Check.due("7 all out", x.told(8), 2);
        Check.due("7 off again", x.numbers(false), 1);
    }
}

import java.util.function.ToIntFunction;

/** Every refusal that a promise names, in a busy state: its answer, and that it changes nothing. */
public final class RefusalsTest {
    private static final int UNKNOWN = -1, OUTSIDE = -2, STATE = -3, FULL = -4, NO = -5;
    private static final int MOST = Integer.MAX_VALUE, LEAST = Integer.MIN_VALUE;

    private static String before;

    public static void main(String[] args) {
        busyIsBusy();
        before = Check.all(busy());
        linksAndFlows();
        lettersAndMoves();
        whatIsTold();
        full();
        Check.end();
    }

    /** Link 3 is down; bucket 0 holds after it failed, bucket 1 is to move holding, bucket 2 at a gap. */
    private static BundleLinks busy() {
        BundleLinks x = new BundleLinks();
        x.link(1, 30);
        x.link(2, 2);
        x.link(3, 3);
        x.link(4, 30);
        for (int f = 0; f < 6; f++) x.flow(10 * f + 1);
        x.pin(5, 7);
        x.least(1000);
        x.send(0, 1);
        x.tick(1);
        x.move(0, 3, 0);
        x.fail(3);
        x.send(0, 1);
        x.send(1, 2);
        x.tick(1);
        x.move(1, 2, 1);
        x.send(1, 1);
        x.send(2, 1);
        x.move(2, 1, 0);
        x.tick(1);
        return x;
    }

    private static void busyIsBusy() {
        BundleLinks x = busy();
        Check.dueAll("holds after failing", Check.bucket(x, 0), 1, BundleLinks.NONE, 1, 1, 1, 1);
        Check.dueAll("to move, holding", Check.bucket(x, 1), 0, 2, 1, 1, 11, 0);
        Check.dueAll("to move at a gap", Check.bucket(x, 2), 0, 1, 0, 0, 21, 0);
        Check.due("link 3 is down", x.about(3, 2), 0);
    }

    private static void refused(String call, int want, ToIntFunction<BundleLinks> made) {
        BundleLinks x = busy();
        Check.due(call, made.applyAsInt(x), want);
        Check.same("after " + call, Check.all(x), before);
    }

    private static void linksAndFlows() {
        refused("link(0, 1)", OUTSIDE, x -> x.link(0, 1));
        refused("link(1, 31)", OUTSIDE, x -> x.link(1, 31));
        refused("link(1, 1)", FULL, x -> x.link(1, 1));
        refused("flow(-1)", OUTSIDE, x -> x.flow(-1));
        refused("flow(101)", OUTSIDE, x -> x.flow(101));
        refused("rate(6, 1)", UNKNOWN, x -> x.rate(6, 1));
        refused("rate(0, 101)", OUTSIDE, x -> x.rate(0, 101));
        refused("pin(6, 1)", UNKNOWN, x -> x.pin(6, 1));
        refused("pin(0, 8)", OUTSIDE, x -> x.pin(0, 8));
        refused("pin(1, 3)", STATE, x -> x.pin(1, 3));
        refused("hash(8, 0)", OUTSIDE, x -> x.hash(8, 0));
        refused("hash(0, -1)", OUTSIDE, x -> x.hash(0, -1));
        refused("hash(2, 2)", STATE, x -> x.hash(2, 2));
        refused("numbers(true)", STATE, x -> x.numbers(true));
    }

    private static void lettersAndMoves() {
        refused("send(6, 1)", UNKNOWN, x -> x.send(6, 1));
        refused("send(0, 0)", OUTSIDE, x -> x.send(0, 0));
        refused("send(0, 51)", OUTSIDE, x -> x.send(0, 51));
        refused("send(0, MOST)", OUTSIDE, x -> x.send(0, MOST));
        refused("tick(-1)", OUTSIDE, x -> x.tick(-1));
        refused("tick(501)", OUTSIDE, x -> x.tick(501));
        refused("tick(0) is no tick", 3, x -> x.tick(0));
        refused("move(8, 1, 0)", UNKNOWN, x -> x.move(8, 1, 0));
        refused("move(7, 4, 0)", UNKNOWN, x -> x.move(7, 4, 0));
        refused("move(7, 1, 3)", OUTSIDE, x -> x.move(7, 1, 3));
        refused("move(0, 2, 0)", STATE, x -> x.move(0, 2, 0));
        refused("move(1, 0, 0)", STATE, x -> x.move(1, 0, 0));
        refused("move(2, 0, 1)", STATE, x -> x.move(2, 0, 1));
        refused("move(2, 3, 2)", STATE, x -> x.move(2, 3, 2));
        refused("move(7, 3, 0)", NO, x -> x.move(7, 3, 0));
        refused("move to where it is", NO, x -> x.move(7, x.bucket(7, 0), 0));
        refused("move at once", NO, x -> x.move(7, (x.bucket(7, 0) + 1) % 3, 2));
        refused("drop(8)", UNKNOWN, x -> x.drop(8));
        refused("drop(-1)", UNKNOWN, x -> x.drop(-1));
        refused("drop(0)", STATE, x -> x.drop(0));
        refused("drop(7)", STATE, x -> x.drop(7));
        refused("fail(4)", UNKNOWN, x -> x.fail(4));
        refused("fail(3)", STATE, x -> x.fail(3));
        refused("back(4)", UNKNOWN, x -> x.back(4));
        refused("back(0)", STATE, x -> x.back(0));
    }

    private static void whatIsTold() {
        refused("letter(MOST, 0)", UNKNOWN, x -> x.letter(MOST, 0));
        refused("letter(0, LEAST)", OUTSIDE, x -> x.letter(0, LEAST));
        refused("about(4, 0)", UNKNOWN, x -> x.about(4, 0));
        refused("about(0, MOST)", OUTSIDE, x -> x.about(0, MOST));
        refused("bucket(8, 0)", UNKNOWN, x -> x.bucket(8, 0));
        refused("bucket(0, 6)", OUTSIDE, x -> x.bucket(0, 6));
        refused("ofFlow(6, 0)", UNKNOWN, x -> x.ofFlow(6, 0));
        refused("ofFlow(0, 6)", OUTSIDE, x -> x.ofFlow(0, 6));
        refused("out(MOST)", BundleLinks.NONE, x -> x.out(MOST));
        refused("ordered(6)", UNKNOWN, x -> x.ordered(6));
        refused("told(11)", OUTSIDE, x -> x.told(11));
        refused("even(1001)", OUTSIDE, x -> x.even(1001));
        refused("least(-1)", OUTSIDE, x -> x.least(-1));
        refused("least(0) finds none", BundleLinks.NONE, x -> x.least(0));
        refused("plan(8)", UNKNOWN, x -> x.plan(8));
    }

    /** The busy state has room left for flows and letters, so these stand apart. */
    private static void full() {
        BundleLinks x = new BundleLinks();
        x.link(1, 1);
        for (int f = 0; f < 16; f++) x.flow(f);
        for (int i = 0; i < 8; i++) x.send(i, 50);
        x.least(1000);
        String then = Check.all(x);
        Check.due("flow(1)", x.flow(1), FULL);
        Check.due("send(0, 1)", x.send(0, 1), FULL);
        Check.same("after FULL", Check.all(x), then);
    }
}

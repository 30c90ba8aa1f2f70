/**
 * Each call with all its edge numbers together, in states of many kinds: which refusal comes first,
 * against the model, and that a refused call changes nothing.
 */
public final class GridTest extends Calls {
    private static final int[] BUCKETS = {MIN, -1, 0, 1, 2, 7, 8, MAX};
    private static final int[] LINKS = {MIN, -1, 0, 1, 2, 3, 4, MAX};
    private static final int[] FLOWS = {MIN, -1, 0, 1, 2, 15, 16, MAX};

    public static void main(String[] args) {
        Run twoLinks = run(link(1, 9), link(2, 2), flow(10), flow(20));
        Run[] states = {
            run(),
            run(flow(3), send(0, 50)),
            run(link(1, 1)),
            twoLinks,
            twoLinks.and(send(0, 3), move(0, 1, AT_A_GAP), tick(1)),
            twoLinks.and(send(0, 3), move(0, 1, HOLDING), send(0, 2), tick(1)),
            twoLinks.and(numbers(true), send(0, 2), move(0, 1, AT_ONCE), send(0, 1), tick(3)),
            twoLinks.and(send(0, 2), tick(1), fail(0), fail(1), send(1, 1)),
            twoLinks.and(numbers(true), send(0, 2), move(0, 1, AT_ONCE), fail(1), send(0, 1)),
            linksAndFlows(4, 16).and(fail(2)).times(7, send(0, 50)).and(send(1, 49)),
            linksAndFlows(4, 16).times(8, send(1, 50)).and(tick(1), fail(0)),
            linksAndFlows(4, 3).and(fail(0), fail(1), fail(2), fail(3), send(2, 1)),
            RefusalsTest.BUSY,
        };
        for (Run state : states) {
            linksAndFlows(state);
            lettersAndTicks(state);
            whatIsTold(state);
            evenness(state);
        }
        Check.end();
    }

    private static void linksAndFlows(Run x) {
        grid(x, "link", new int[] {MIN, 0, 1, 8, 9, MAX}, new int[] {MIN, 0, 1, 30, 31, MAX});
        grid(x, "flow", new int[] {MIN, -1, 0, 100, 101, MAX});
        grid(x, "rate", FLOWS, new int[] {MIN, -1, 0, 100, 101, MAX});
        grid(x, "pin", FLOWS, new int[] {MIN, -2, -1, 0, 7, 8, MAX});
        grid(x, "hash", new int[] {MIN, -1, 0, 7, 8, MAX}, new int[] {MIN, -1, 0, 7, 8, MAX});
        grid(x, "numbers", new int[] {0, 1});
    }

    private static void lettersAndTicks(Run x) {
        grid(x, "send", FLOWS, new int[] {MIN, 0, 1, 2, 50, 51, MAX});
        grid(x, "tick", new int[] {MIN, -1, 0, 1, 500, 501, MAX});
        grid(x, "move", BUCKETS, LINKS, new int[] {MIN, -1, 0, 1, 2, 3, MAX});
        grid(x, "drop", BUCKETS);
        grid(x, "fail", LINKS);
        grid(x, "back", LINKS);
    }

    private static void whatIsTold(Run x) {
        grid(x, "letter", new int[] {MIN, -1, 0, 1, 2, 3, 398, 399, 400, MAX}, new int[] {MIN, -1, 0, 4, 8, 9, MAX});
        grid(x, "about", LINKS, new int[] {MIN, -1, 0, 7, 8, MAX});
        grid(x, "bucket", BUCKETS, new int[] {MIN, -1, 0, 5, 6, MAX});
        grid(x, "ofFlow", FLOWS, new int[] {MIN, -1, 0, 5, 6, MAX});
        grid(x, "out", new int[] {MIN, -1, 0, 1, 399, 400, MAX});
        grid(x, "ordered", FLOWS);
        grid(x, "told", new int[] {MIN, -1, 0, 10, 11, MAX});
    }

    private static void evenness(Run x) {
        grid(x, "even", new int[] {MIN, -1, 0, 1000, 1001, MAX});
        grid(x, "least", new int[] {MIN, -1, 0, 1000, 1001, MAX});
        grid(x, "plan", BUCKETS);
    }

    private static void grid(Run x, String name, int[] first) {
        for (int a : first) x.answersAsTheModel(new Call(name, a));
    }

    private static void grid(Run x, String name, int[] first, int[] second) {
        for (int a : first) {
            for (int b : second) x.answersAsTheModel(new Call(name, a, b));
        }
    }

    private static void grid(Run x, String name, int[] first, int[] second, int[] third) {
        for (int a : first) {
            for (int b : second) {
                for (int c : third) x.answersAsTheModel(new Call(name, a, b, c));
            }
        }
    }
}

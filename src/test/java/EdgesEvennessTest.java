/** The boundary cases of promises 21 to 23: even, least, plan. */
public final class EdgesEvennessTest extends Calls {
    private static final Run NO_LINK = run(flow(10));
    private static final Run NONE_UP = run(link(1, 1), link(1, 1), flow(10), least(1000), fail(0), fail(1));
    private static final Run FOUR_DOWN = linksAndFlows(4, 16).and(fail(3), fail(2), fail(1), fail(0));
    private static final Run TWO_LINKS = run(link(1, 1), link(1, 1), flow(40), flow(30), flow(20), flow(10));

    public static void main(String[] args) {
        promise21Evenness();
        promise21State();
        promise21NotAbove();
        promise21MostAndNone();
        promise21LinksThatAreUp();
        promise22Evenness();
        promise22State();
        promise22HowMany();
        promise22None();
        promise22OfSeveral();
        promise22OnlyOnesThatAreUp();
        promise22ChangesOnlyThePlan();
        promise23Bucket();
        promise23State();
        promise23TheLatestThatToldANumber();
        Check.end();
    }

    /** k (hundredths, 0 to 1000). */
    private static void promise21Evenness() {
        TWO_LINKS.onlyTells(0, even(0), even(99));
        TWO_LINKS.onlyTells(1, even(100), even(1000));
        for (Run x : new Run[] {run(), NO_LINK, NONE_UP, FOUR_DOWN, TWO_LINKS}) x.refuses(OUTSIDE, even(MIN), even(-1), even(1001), even(MAX));
    }

    /** STATE: no LINK is UP. */
    private static void promise21State() {
        for (Run x : new Run[] {run(), NO_LINK, NONE_UP, FOUR_DOWN}) x.refuses(STATE, even(0), even(1000));
        NO_LINK.and(link(1, 1)).answers(1, even(0));
        NONE_UP.and(back(1)).answers(1, even(0));
        NONE_UP.and(back(1), back(0)).answers(0, even(99));
        NONE_UP.and(back(1), fail(1)).refuses(STATE, even(0));
        for (int l = 0; l < 4; l++) FOUR_DOWN.and(back(l)).answers(1, even(0));
        run(link(1, 1)).answers(1, even(0));
    }

    /** LOAD times all SPEEDS times 100 is not above (100 and k) times all LOADS times its SPEED. */
    private static void promise21NotAbove() {
        // All load on a link of speed s, of S together: even from 100 S / s less 100 on.
        int[][] speeds = {{1, 1}, {2, 1}, {8, 1}, {1, 8}, {1, 8, 1}, {1, 8, 2}, {3, 4, 5, 6}};
        for (int[] row : speeds) {
            Run x = run(flow(100), flow(1));
            int together = 0;
            for (int speed : row) {
                x = x.and(link(speed, 1));
                together += speed;
            }
            int first = (100 * together + row[0] - 1) / row[0] - 100;
            x.answers(0, even(first - 1));
            x.answers(1, even(first));
        }
        // Speeds 1, 8 and 2: eleven together, so it is 1000 to the number; 1, 8, 2 and 1 is beyond.
        Run eleven = run(flow(7), link(1, 1), link(8, 1), link(2, 1));
        eleven.answers(0, even(999));
        eleven.answers(1, even(1000));
        eleven.and(link(1, 1)).answers(0, even(1000));
        // Of two: 50 and 51. 51 times 2 times 100 is 10200; 100 times 101 is less, 101 times 101 is one more.
        Run nearly = run(link(1, 1), link(1, 1), flow(50), flow(51), move(1, 1, 0));
        nearly.answers(0, even(0));
        nearly.answers(1, even(1));
        nearly.and(rate(1, 50)).answers(1, even(0));
        // The second link alone is above.
        Run second = run(link(2, 1), link(1, 1), flow(60), flow(40), move(1, 1, 0));
        second.answers(0, even(19));
        second.answers(1, even(20));
    }

    private static void promise21MostAndNone() {
        Run none = run(link(1, 1), link(8, 1));
        none.answers(1, even(0), even(1000));
        none.times(16, flow(0)).answers(1, even(0));
        Run most = run().times(16, flow(100)).times(4, link(8, 30));
        most.answers(0, even(299));
        most.answers(1, even(300), even(1000));
        Run shared = most.and(move(2, 1, 0), move(3, 1, 0), move(4, 2, 0), move(5, 2, 0), move(6, 3, 0), move(7, 3, 0));
        shared.answers(1, even(0));
        shared.and(rate(0, 99)).answers(0, even(0));
        shared.and(rate(0, 99)).answers(1, even(1));
    }

    private static void promise21LinksThatAreUp() {
        Run x = run(link(1, 1), link(1, 1), link(8, 1), flow(50), flow(50), move(1, 1, 0));
        x.answers(0, even(399));
        x.answers(1, even(400));
        x.and(fail(2)).answers(1, even(0));
        x.and(fail(2), back(2)).answers(0, even(399));
    }

    private static void promise22Evenness() {
        for (Run x : new Run[] {run(), NO_LINK, NONE_UP, FOUR_DOWN, TWO_LINKS}) x.refuses(OUTSIDE, least(MIN), least(-1), least(1001), least(MAX));
        TWO_LINKS.answers(2, least(0));
        TWO_LINKS.answers(0, least(1000));
        TWO_LINKS.and(least(0)).refuses(OUTSIDE, least(-1), least(1001));
    }

    private static void promise22State() {
        for (Run x : new Run[] {run(), NO_LINK, NONE_UP, FOUR_DOWN}) x.refuses(STATE, least(0), least(1000));
        NO_LINK.and(link(1, 1)).answers(0, least(0));
        NONE_UP.and(back(0)).answers(0, least(100));
        for (int l = 0; l < 4; l++) FOUR_DOWN.and(back(l)).answers(0, least(0));
    }

    private static void promise22HowMany() {
        // 40, 30, 20 and 10 on one link of two; within k each may have half of (100 and k).
        TWO_LINKS.answers(0, least(100), least(1000));
        TWO_LINKS.answers(1, least(99), least(80), least(40), least(20));
        TWO_LINKS.answers(2, least(19), least(0));
        TWO_LINKS.and(least(100)).planIs(0, 0, 0, 0, 0, 0, 0, 0);
        // Within 99 one of any rate is enough: of the plans with one move, bucket 3's has the lesser links first.
        TWO_LINKS.and(least(99)).planIs(0, 0, 0, 1, 0, 0, 0, 0);
        TWO_LINKS.and(least(80)).planIs(0, 0, 0, 1, 0, 0, 0, 0);
        TWO_LINKS.and(least(79)).planIs(0, 0, 1, 0, 0, 0, 0, 0);
        TWO_LINKS.and(least(60)).planIs(0, 0, 1, 0, 0, 0, 0, 0);
        TWO_LINKS.and(least(59)).planIs(0, 1, 0, 0, 0, 0, 0, 0);
        TWO_LINKS.and(least(40)).planIs(0, 1, 0, 0, 0, 0, 0, 0);
        TWO_LINKS.and(least(39)).planIs(1, 0, 0, 0, 0, 0, 0, 0);
        TWO_LINKS.and(least(20)).planIs(1, 0, 0, 0, 0, 0, 0, 0);
        TWO_LINKS.and(least(19)).planIs(0, 1, 1, 0, 0, 0, 0, 0);
        // Eight like buckets on a link that may not have one of them.
        Run eight = linksAndFlows(0, 8).and(link(1, 1), link(8, 1), link(8, 1));
        eight.answers(8, least(112));
        eight.answers(7, least(113));
        eight.and(least(112)).planIs(1, 1, 1, 1, 1, 1, 1, 2);
        eight.and(least(113)).planIs(0, 1, 1, 1, 1, 1, 1, 1);
        eight.answers(8, least(7));
        eight.and(least(7)).planIs(1, 1, 1, 1, 2, 2, 2, 2);
        eight.answers(NONE, least(6));
    }

    /** NONE: there are none that do; it changes nothing, the plan neither. */
    private static void promise22None() {
        Run one = run(link(1, 1), link(1, 1), flow(10));
        one.onlyTells(NONE, least(0), least(99));
        one.answers(0, least(100));
        Run planned = one.and(least(100), move(0, 1, 0));
        planned.onlyTells(NONE, least(99));
        planned.and(least(99)).planIs(0, 0, 0, 0, 0, 0, 0, 0);
        // A slow link, and the only bucket with load on the fast one: as even as can be is not even.
        Run slow = run(link(1, 1), link(8, 1), flow(10), move(0, 1, 0));
        slow.onlyTells(NONE, least(12));
        slow.answers(0, least(13));
        Run most = run().times(4, link(8, 30)).times(16, flow(100));
        most.answers(6, least(0));
        most.and(rate(0, 99)).onlyTells(NONE, least(0));
        most.and(rate(0, 99)).answers(6, least(1));
    }

    /** Of several plans the one whose LINKS, by BUCKETS, are first the lesser. */
    private static void promise22OfSeveral() {
        Run three = linksAndFlows(3, 3);
        three.and(least(0)).planIs(0, 1, 2, 0, 0, 0, 0, 0);
        Run onLast = three.and(move(0, 2, 0), move(1, 2, 0), move(2, 2, 0));
        onLast.answers(2, least(0));
        onLast.and(least(0)).planIs(0, 1, 2, 0, 0, 0, 0, 0);
        Run onMiddle = three.and(move(0, 1, 0), move(1, 1, 0), move(2, 1, 0));
        onMiddle.and(least(0)).planIs(0, 1, 2, 0, 0, 0, 0, 0);
        // The fewest come ahead of the lesser.
        Run stays = three.and(move(0, 2, 0), move(1, 1, 0));
        stays.answers(0, least(0));
        stays.and(least(0)).planIs(2, 1, 0, 0, 0, 0, 0, 0);
        // Buckets without load stay where they are.
        Run noLoad = onLast.and(move(6, 1, 0), move(7, 2, 0));
        noLoad.and(least(0)).planIs(0, 1, 2, 0, 0, 0, 1, 2);
        run(link(1, 1), link(1, 1), move(3, 1, 0), least(0)).planIs(0, 0, 0, 1, 0, 0, 0, 0);
    }

    private static void promise22OnlyOnesThatAreUp() {
        Run x = linksAndFlows(4, 2).and(fail(1), fail(2));
        x.answers(1, least(0));
        x.and(least(0)).planIs(0, 3, 0, 0, 0, 0, 0, 0);
        x.and(back(1)).answers(1, least(50));
        x.and(back(1), least(50)).planIs(0, 1, 0, 0, 0, 0, 0, 0);
        x.and(back(1)).onlyTells(NONE, least(49));
        // A bucket that is to move is not there yet.
        Run toMove = linksAndFlows(2, 2).and(send(1, 1), move(1, 1, 0));
        toMove.answers(1, least(0));
        toMove.and(tick(1)).answers(0, least(0));
    }

    /** It tells a plan, and moves no bucket. */
    private static void promise22ChangesOnlyThePlan() {
        Run planned = TWO_LINKS.and(send(0, 3), least(0));
        planned.onlyTells(2, least(0));
        for (int b = 0; b < 8; b++) planned.bucketIs(b, 0, NONE, 0, 0, b < 4 ? 40 - 10 * b : 0, 0);
    }

    private static void promise23Bucket() {
        for (Run x : new Run[] {run(), TWO_LINKS, TWO_LINKS.and(least(0)), NONE_UP}) {
            x.refuses(UNKNOWN, plan(MIN), plan(NONE), plan(-1), plan(8), plan(MAX));
        }
        TWO_LINKS.and(least(0)).onlyTells(0, plan(0), plan(7));
        TWO_LINKS.and(least(0)).onlyTells(1, plan(1), plan(2));
    }

    /** STATE: there was none that told a number. */
    private static void promise23State() {
        for (Run x : new Run[] {run(), NO_LINK, TWO_LINKS}) x.refuses(STATE, plan(0), plan(7));
        NO_LINK.and(least(0)).refuses(STATE, plan(0));
        TWO_LINKS.and(least(1001), least(-1), even(0)).refuses(STATE, plan(0));
        Run none = run(link(1, 1), link(1, 1), flow(10), least(0));
        none.refuses(STATE, plan(0), plan(7));
        none.and(least(100)).answers(0, plan(0), plan(7));
    }

    private static void promise23TheLatestThatToldANumber() {
        Run planned = TWO_LINKS.and(least(39));
        planned.planIs(1, 0, 0, 0, 0, 0, 0, 0);
        planned.and(least(1001), least(-1)).planIs(1, 0, 0, 0, 0, 0, 0, 0);
        planned.and(rate(0, 100), least(0)).planIs(1, 0, 0, 0, 0, 0, 0, 0);
        planned.and(fail(0), fail(1), least(100)).planIs(1, 0, 0, 0, 0, 0, 0, 0);
        planned.and(move(5, 1, 0), tick(9), link(1, 1)).planIs(1, 0, 0, 0, 0, 0, 0, 0);
        planned.and(least(19)).planIs(0, 1, 1, 0, 0, 0, 0, 0);
        planned.and(least(100)).planIs(0, 0, 0, 0, 0, 0, 0, 0);
        planned.and(fail(0), least(0)).planIs(1, 1, 1, 1, 1, 1, 1, 1);
        NONE_UP.planIs(0, 0, 0, 0, 0, 0, 0, 0);
    }
}

/** The boundary cases of promises 8 and 9: send and tick. */
public final class EdgesSendTickTest extends Calls {
    public static void main(String[] args) {
        promise8FlowAndHowMany();
        promise8FourHundred();
        promise8FullThoughAllHaveEnded();
        promise8HeldOrQueued();
        promise8NumbersAndPlaces();
        promise9HowMany();
        promise9TimeWithoutLinks();
        promise9Speed();
        promise9Delay();
        promise9ManyAtOnceOrOneByOne();
        promise9LinksThatAreNotUp();
        promise9ArrivingByLinks();
        promise9OneBehindTheOther();
        promise9LastCalls();
        Check.end();
    }

    /** n LETTERS (1 to 50) of a FLOW. */
    private static void promise8FlowAndHowMany() {
        Run x = linksAndFlows(1, 2);
        for (int n = 1; n <= 50; n++) {
            x.answers(n, send(0, n), send(1, n));
            x.and(send(1, n)).answers(n, told(3), ofFlow(1, 2), about(0, 3));
        }
        for (int n : new int[] {MIN, -1, 0, 51, 400, 401, MAX}) x.refuses(OUTSIDE, send(0, n), send(1, n));
        for (int f : new int[] {MIN, -1, 2, 16, MAX}) x.refuses(UNKNOWN, send(f, 1), send(f, 50), send(f, 0), send(f, 51));
        linksAndFlows(1, 16).answers(50, send(15, 50));
        linksAndFlows(1, 16).refuses(UNKNOWN, send(16, 50));
    }

    /** FULL: there would be more than 400. */
    private static void promise8FourHundred() {
        Run of350 = linksAndFlows(0, 2).times(7, send(0, 50));
        of350.answers(400, send(0, 50), send(1, 50));
        Run of351 = of350.and(send(1, 1));
        of351.answers(400, send(0, 49));
        of351.refuses(FULL, send(0, 50));
        Run of399 = of350.and(send(1, 49));
        of399.answers(399, told(3));
        of399.answers(400, send(0, 1));
        of399.refuses(FULL, send(0, 2), send(1, 50));
        Run of400 = of399.and(send(0, 1));
        of400.refuses(FULL, send(0, 1), send(1, 50));
        of400.refuses(OUTSIDE, send(0, 0), send(1, 51), send(1, MAX));
        of400.refuses(UNKNOWN, send(2, 1), send(-1, 51));
        of400.answers(399 - 49, letter(399, 1));
        of400.answers(UNKNOWN, letter(400, 1));
    }

    /** LETTERS, 400 at most, whatever became of them. */
    private static void promise8FullThoughAllHaveEnded() {
        Run queued = run(link(8, 30), flow(1)).times(8, send(0, 50));
        Run out = queued.and(tick(80));
        out.answers(400, told(8), about(0, 7), ofFlow(0, 3));
        out.answers(399, out(399), letter(399, 1));
        out.answers(NONE, out(400));
        out.refuses(FULL, send(0, 1));
        Run lost = queued.and(fail(0));
        queued.answers(400, fail(0));
        lost.answers(400, told(9), ofFlow(0, 4));
        lost.refuses(FULL, send(0, 1));
        Run held = run(flow(1)).times(8, send(0, 50));
        held.answers(400, told(4), bucket(0, 3));
        held.and(link(1, 1)).answers(400, about(0, 3));
        held.and(link(1, 1)).refuses(FULL, send(0, 1));
        held.and(link(1, 1), tick(399)).answers(399, about(0, 7), letter(398, 6));
        held.and(link(1, 1), tick(401)).answers(400, told(8));
    }

    /** HELD there, if the BUCKET HOLDS, or is on no LINK, or has HELD ones; else QUEUED behind all others. */
    private static void promise8HeldOrQueued() {
        run(flow(1), send(0, 1)).statesAre("h");
        run(flow(1), send(0, 1), send(0, 2)).statesAre("hhh");
        run(link(1, 9), flow(1), send(0, 1)).statesAre("q");
        run(link(1, 9), fail(0), flow(1), send(0, 1)).statesAre("h");
        run(link(1, 9), fail(0), flow(1), send(0, 1), back(0), send(0, 1)).statesAre("qq");
        Run twoLinks = run(link(1, 9), link(1, 2), flow(1), flow(1), send(0, 1));
        Run gap = twoLinks.and(move(0, 1, AT_A_GAP), send(0, 1), send(1, 1));
        gap.statesAre("qqq");
        gap.answers(0, letter(1, 4));
        Run holding = twoLinks.and(move(0, 1, HOLDING), send(0, 1), send(1, 1), send(0, 1));
        holding.statesAre("qhqh");
        // It left at 1 and arrives at 10: at time 7 that is not before 7 and 1 and 2, at 8 it is.
        holding.and(tick(7), send(0, 1)).statesAre("yhyhh");
        Run there = holding.and(tick(8), send(0, 1));
        there.statesAre("yqyqq");
        there.answers(1, letter(1, 4), letter(3, 4), letter(4, 4));
        // The link to which it is to move fails, then its own: on the new link it holds.
        twoLinks.and(tick(1), move(0, 1, HOLDING), fail(1), send(0, 1)).statesAre("yq");
        Run holdsAfterFailing = run(numbers(true), link(1, 9), link(1, 2), flow(1), send(0, 1), move(0, 1, AT_ONCE), fail(1), send(0, 1));
        holdsAfterFailing.statesAre("qh");
        holdsAfterFailing.and(tick(1), send(0, 1)).statesAre("yqq");
    }

    /** Numbered from 0 on as they were sent; a place among its FLOW's LETTERS, from 0 on. */
    private static void promise8NumbersAndPlaces() {
        Run x = run(tick(3), flow(1), flow(1), send(1, 2), send(0, 1), tick(1), send(1, 50), send(0, 1));
        x.letterIs(0, 1, 0, 1, HELD, NONE, 3, NONE, NONE, NONE);
        x.letterIs(1, 1, 1, 1, HELD, NONE, 3, NONE, NONE, NONE);
        x.letterIs(2, 0, 0, 0, HELD, NONE, 3, NONE, NONE, NONE);
        x.letterIs(3, 1, 2, 1, HELD, NONE, 4, NONE, NONE, NONE);
        x.letterIs(52, 1, 51, 1, HELD, NONE, 4, NONE, NONE, NONE);
        x.letterIs(53, 0, 1, 0, HELD, NONE, 4, NONE, NONE, NONE);
        x.answers(UNKNOWN, letter(54, 0));
    }

    /** n TICKS (0 to 500). */
    private static void promise9HowMany() {
        Run x = run(link(1, 3), flow(1), send(0, 2), tick(1));
        for (int n : new int[] {0, 1, 2, 499, 500}) x.answers(1 + n, tick(n));
        x.onlyTells(1, tick(0));
        for (int n : new int[] {MIN, -1, 501, MAX}) x.refuses(OUTSIDE, tick(n));
        Run later = x.and(tick(500));
        later.answers(1001, tick(500));
        later.refuses(OUTSIDE, tick(501));
    }

    private static void promise9TimeWithoutLinks() {
        run().answers(500, tick(500));
        run().refuses(OUTSIDE, tick(501), tick(-1));
        Run held = run(flow(1), send(0, 1), tick(500));
        held.toldIs(500, 0, 1, 1, 1, 0, 0, 0, 0, 0, 0);
    }

    /** The first QUEUED ones, SPEED of them at most. */
    private static void promise9Speed() {
        for (int speed = 1; speed <= 8; speed++) {
            Run x = run(link(speed, 30), flow(1));
            x.and(tick(1)).aboutIs(0, speed, 30, 1, 0, 0, 8, 1, 0);
            x.and(send(0, speed), tick(1)).aboutIs(0, speed, 30, 1, 0, speed, 8, 1, speed);
            Run oneMore = x.and(send(0, speed + 1), tick(1));
            oneMore.aboutIs(0, speed, 30, 1, 1, speed, 8, 1, speed);
            oneMore.answers(1, letter(speed - 1, 6));
            oneMore.answers(NONE, letter(speed, 6));
            oneMore.and(tick(1)).aboutIs(0, speed, 30, 1, 0, speed + 1, 8, 1, speed + 1);
            oneMore.and(tick(1)).answers(2, letter(speed, 6));
        }
        run(link(8, 30), flow(1), send(0, 1), tick(1)).aboutIs(0, 8, 30, 1, 0, 1, 8, 1, 1);
    }

    /** They arrive at TIME and DELAY: not a TICK before, not a TICK later. */
    private static void promise9Delay() {
        for (int delay = 1; delay <= 30; delay++) {
            for (boolean on : new boolean[] {false, true}) {
                Run x = run(numbers(on), link(1, delay), flow(1), tick(5), send(0, 1));
                x.and(tick(delay)).letterIs(0, 0, 0, 0, ON_ITS_WAY, 0, 5, 6, 6 + delay, NONE);
                x.and(tick(delay)).answers(NONE, out(0));
                x.and(tick(delay + 1)).letterIs(0, 0, 0, 0, OUT, 0, 5, 6, 6 + delay, 6 + delay);
                x.and(tick(delay + 1)).answers(0, out(0), about(0, 4));
            }
        }
    }

    private static void promise9ManyAtOnceOrOneByOne() {
        Run x = run(link(2, 9), link(1, 2), flow(3), flow(4), send(0, 7), send(1, 3),
            move(0, 1, HOLDING), send(0, 2), move(1, 1, AT_A_GAP), send(1, 1));
        Run oneByOne = x;
        for (int n = 1; n <= 30; n++) {
            oneByOne = oneByOne.and(tick(1));
            Check.same("9 tick(" + n + ")", x.and(tick(n)).picture(), oneByOne.picture());
        }
        oneByOne.statesAre("ooooooooooooo");
    }

    private static void promise9LinksThatAreNotUp() {
        Run x = run(link(1, 3), link(1, 3), flow(1), send(0, 2), tick(1), fail(0), tick(3));
        x.statesAre("ll");
        x.aboutIs(0, 1, 3, 0, 0, 0, 0, 0, 1);
        x.toldIs(4, 2, 1, 2, 0, 0, 0, 0, 0, 2, 0);
        run(link(1, 3), fail(0), flow(1), send(0, 1), tick(500)).statesAre("h");
    }

    /** By LINKS, then as they left; with NUMBERS on by the LETTERS' numbers. */
    private static void promise9ArrivingByLinks() {
        for (boolean on : new boolean[] {false, true}) {
            // Buckets 0 and 1 on links 0 and 1; letters 0 and 1 leave at 1, 2 and 3 at 2; all arrive at 3.
            Run x = run(numbers(on), link(2, 1), link(2, 2), flow(1), flow(1), move(1, 1, AT_A_GAP),
                send(1, 2), tick(1), send(0, 2));
            x.and(tick(1)).answers(0, told(8), told(7));
            Run out = x.and(tick(2));
            int[] due = on ? new int[] {0, 1, 2, 3} : new int[] {2, 3, 0, 1};
            for (int i = 0; i < 4; i++) {
                out.answers(due[i], out(i));
                out.answers(3, letter(i, 7), letter(i, 8));
            }
            out.answers(NONE, out(4));
        }
    }

    /** What comes OUT lets the next one: a whole row in one TICK, up to the first that is not there. */
    private static void promise9OneBehindTheOther() {
        Run x = run(numbers(true), link(1, 30), link(8, 1), flow(1), flow(1), pin(1, 0),
            send(0, 1), move(0, 1, AT_ONCE), send(0, 8), move(0, 0, AT_ONCE), send(0, 1), move(0, 1, AT_ONCE), send(0, 1), send(1, 1));
        // Letter 0 leaves link 0 at 1, letter 9 at 2; the others go by link 1, letters 1 to 8 at 1, 10 and 11 at 2.
        x.and(tick(1)).statesAre("yyyyyyyyyqqq");
        x.and(tick(2)).statesAre("ywwwwwwwwyyy");
        x.and(tick(3)).statesAre("ywwwwwwwwywo");
        x.and(tick(30)).statesAre("ywwwwwwwwywo");
        Run atOnce = x.and(tick(31));
        atOnce.statesAre("oooooooooywo");
        for (int i = 0; i < 9; i++) {
            atOnce.answers(i, out(i + 1));
            atOnce.answers(31, letter(i, 8));
        }
        atOnce.answers(11, out(0));
        atOnce.answers(NONE, out(10));
        Run all = x.and(tick(32));
        all.statesAre("oooooooooooo");
        all.answers(32, letter(9, 8), letter(10, 8));
        all.answers(3, letter(10, 7), letter(11, 8));
        all.answers(1, ordered(0), ordered(1));
        // What is LOST lets the next one likewise, at the next TICK.
        Run lost = x.and(tick(3), fail(0));
        lost.statesAre("lwwwwwwwwlwo");
        lost.and(tick(1)).statesAre("looooooooloo");
        lost.and(tick(1)).answers(4, letter(1, 8), letter(10, 8));
    }

    /** An object is used for at most 512 calls: the last ones answer as the first did. */
    private static void promise9LastCalls() {
        BundleLinks x = new BundleLinks();
        for (int call = 1; call <= 512; call++) Check.due("9 tick(500), call " + call, x.tick(500), 500 * call);
        BundleLinks y = new BundleLinks();
        for (int call = 1; call <= 505; call++) y.tick(500);
        Check.due("9 call 506", y.link(1, 30), 0);
        Check.due("9 call 507", y.flow(1), 0);
        Check.due("9 call 508", y.send(0, 1), 1);
        Check.due("9 call 509", y.tick(30), 252530);
        Check.due("9 call 510", y.letter(0, 3), ON_ITS_WAY);
        Check.due("9 call 511", y.tick(1), 252531);
        Check.due("9 call 512", y.letter(0, 8), 252531);
        BundleLinks z = new BundleLinks();
        for (int call = 1; call <= 511; call++) Check.due("9 refused, call " + call, z.tick(501), OUTSIDE);
        Check.due("9 call 512, refused calls count for nothing", z.tick(1), 1);
    }
}

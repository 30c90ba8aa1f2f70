/** The boundary cases of promises 1 to 7: each on both sides, which refusal comes first, nothing changed. */
public final class EdgesLinksFlowsTest extends Calls {
    /** Of two flows the first has one letter, in each state that is neither OUT nor LOST. */
    private static final Run LETTER_HELD = run(flow(10), flow(20), send(0, 1));
    private static final Run LETTER_QUEUED = run(link(1, 2), flow(10), flow(20), send(0, 1));
    private static final Run LETTER_ON_ITS_WAY = LETTER_QUEUED.and(tick(1));
    /** Letter 0 is lost by link 0 that failed; letter 1 waits until the next tick. */
    private static final Run LETTER_WAITS = run(numbers(true), link(1, 5), link(1, 1), flow(10), flow(20),
        send(0, 1), tick(1), move(0, 1, AT_ONCE), send(0, 1), tick(3), fail(0));
    private static final Run ONE_OUT_ONE_NOT = run(link(1, 2), flow(10), flow(20), send(0, 2), tick(3));
    private static final Run[] UNENDED = {LETTER_HELD, LETTER_QUEUED, LETTER_ON_ITS_WAY, LETTER_WAITS, ONE_OUT_ONE_NOT};
    private static final Run LETTER_OUT = LETTER_QUEUED.and(tick(3));
    private static final Run LETTER_LOST = LETTER_QUEUED.and(fail(0));
    private static final Run LETTER_LOST_ON_ITS_WAY = LETTER_ON_ITS_WAY.and(fail(0));
    private static final Run[] ENDED = {LETTER_OUT, LETTER_LOST, LETTER_LOST_ON_ITS_WAY};

    public static void main(String[] args) {
        theStatesAreAsTheirNames();
        promise1AllIsEmpty();
        promise1ObjectsShareNothing();
        promise2SpeedAndDelay();
        promise2FourLinks();
        promise2WhatALinkTakes();
        promise3RateOfANewFlow();
        promise3SixteenFlows();
        promise4FlowAndRate();
        promise4InAnyState();
        promise5FlowAndBucket();
        promise5Unended();
        promise5BucketAhead();
        promise6FactorAndSummand();
        promise6WhatIsLeftByEight();
        promise6Unended();
        promise7Numbers();
        promise7Unended();
        Check.end();
    }

    private static void theStatesAreAsTheirNames() {
        LETTER_HELD.statesAre("h");
        LETTER_QUEUED.statesAre("q");
        LETTER_ON_ITS_WAY.statesAre("y");
        LETTER_WAITS.statesAre("lw");
        ONE_OUT_ONE_NOT.statesAre("oy");
        LETTER_OUT.statesAre("o");
        LETTER_LOST.statesAre("l");
        LETTER_LOST_ON_ITS_WAY.statesAre("l");
    }

    private static void promise1AllIsEmpty() {
        Run x = run();
        x.toldIs(0, 0, 0, 0, 0, 0, 0, 0, 0, 0, 0);
        for (int b = 0; b < 8; b++) x.bucketIs(b, NONE, NONE, 0, 0, 0, 0);
        x.refuses(UNKNOWN, rate(0, 0), pin(0, 0), send(0, 1), move(0, 0, 0), fail(0), back(0));
        x.refuses(UNKNOWN, letter(0, 0), about(0, 0), ofFlow(0, 0), ordered(0));
        x.refuses(STATE, drop(0), drop(7), even(0), least(0), plan(0));
        x.onlyTells(NONE, out(0));
        x.answers(0, tick(0), numbers(false), link(1, 1), flow(0));
        x.answers(1, hash(1, 0), tick(1));
        Run flows = x.times(16, flow(0));
        for (int f = 0; f < 16; f++) flows.answers(f % 8, ofFlow(f, 1));
    }

    private static void promise1ObjectsShareNothing() {
        BundleLinks one = new BundleLinks();
        for (Call call : new Call[] {hash(3, 3), numbers(true), link(2, 2), flow(5), send(0, 3), tick(2), least(0)}) call.on(one);
        BundleLinks other = new BundleLinks();
        Check.dueAll("1 another object", Check.told(other), 0, 0, 0, 0, 0, 0, 0, 0, 0, 0, 0);
        Check.due("1 no plan there", other.plan(0), STATE);
        Check.due("1 first flow there", other.flow(1), 0);
        Check.due("1 C 0 there", other.ofFlow(0, 1), 0);
    }

    /** SPEED (1 to 8), DELAY (1 to 30). */
    private static void promise2SpeedAndDelay() {
        for (int speed = 1; speed <= 8; speed++) {
            run().answers(0, link(speed, 1), link(speed, 30));
            run(link(speed, 7)).aboutIs(0, speed, 7, 1, 0, 0, 8, 0, 0);
        }
        for (int delay = 1; delay <= 30; delay++) {
            run().answers(0, link(1, delay), link(8, delay));
            run(link(3, delay)).aboutIs(0, 3, delay, 1, 0, 0, 8, 0, 0);
        }
        for (int speed : new int[] {MIN, -1, 0, 9, MAX}) run().refuses(OUTSIDE, link(speed, 1), link(speed, 30), link(speed, 0));
        for (int delay : new int[] {MIN, -1, 0, 31, MAX}) run().refuses(OUTSIDE, link(1, delay), link(8, delay), link(9, delay));
    }

    /** LINKS, 4 at most, numbered from 0 on. */
    private static void promise2FourLinks() {
        Run three = run(link(1, 1), link(2, 2), link(3, 3));
        three.answers(3, link(1, 1), link(8, 30));
        Run four = three.and(link(8, 30));
        four.refuses(FULL, link(1, 1), link(8, 30));
        four.refuses(OUTSIDE, link(0, 1), link(9, 1), link(1, 0), link(1, 31));
        Run allFailed = four.and(fail(0), fail(1), fail(2), fail(3));
        allFailed.refuses(FULL, link(1, 1));
        allFailed.refuses(OUTSIDE, link(1, 31));
        run(link(1, 1), fail(0)).answers(1, link(1, 1));
        four.answers(4, told(1));
    }

    /** "A LINK that is made takes these likewise": BUCKETS on no LINK, and what was HELD there is QUEUED. */
    private static void promise2WhatALinkTakes() {
        Run first = run(flow(1), flow(2), send(1, 1), send(0, 1), link(1, 5));
        first.aboutIs(0, 1, 5, 1, 2, 0, 8, 3, 0);
        first.answers(0, told(4), bucket(0, 3), bucket(1, 3), bucket(7, 0));
        Run second = first.and(link(1, 1));
        second.answers(8, about(0, 5));
        second.answers(0, about(1, 5), about(1, 3), bucket(0, 0));
        Run oneDown = second.and(fail(0), link(1, 1));
        oneDown.answers(8, about(1, 5));
        oneDown.answers(0, about(2, 5));
        Run noneUp = second.and(fail(0), fail(1), send(0, 2));
        noneUp.answers(2, told(4), link(8, 1));
        Run taken = noneUp.and(link(8, 1));
        taken.aboutIs(2, 8, 1, 1, 2, 0, 8, 3, 0);
        taken.answers(0, about(0, 2), about(1, 2), bucket(0, 5));
    }

    /** RATE (0 to 100). */
    private static void promise3RateOfANewFlow() {
        for (int rate = 0; rate <= 100; rate++) {
            run().answers(0, flow(rate));
            run(flow(rate)).answers(rate, ofFlow(0, 0), bucket(0, 4));
        }
        for (int rate : new int[] {MIN, -1, 101, MAX}) run().refuses(OUTSIDE, flow(rate));
    }

    /** FLOWS, 16 at most, numbered from 0 on; a new one is not PINNED. */
    private static void promise3SixteenFlows() {
        Run fifteen = linksAndFlows(1, 15);
        fifteen.answers(15, flow(0), flow(100));
        fifteen.refuses(OUTSIDE, flow(-1), flow(101));
        Run sixteen = fifteen.and(flow(9));
        sixteen.flowIs(15, 9, 7, 0, 0, 0, 0);
        sixteen.refuses(FULL, flow(0), flow(100));
        sixteen.refuses(OUTSIDE, flow(-1), flow(101));
        sixteen.answers(16, told(2));
    }

    private static void promise4FlowAndRate() {
        Run x = run(link(1, 1), flow(10), flow(20), flow(30));
        for (int f : new int[] {MIN, -1, 3, 16, MAX}) x.refuses(UNKNOWN, rate(f, 0), rate(f, -1), rate(f, 101));
        for (int r : new int[] {MIN, -1, 101, MAX}) x.refuses(OUTSIDE, rate(0, r), rate(2, r));
        x.answers(10, rate(0, 0), rate(0, 10), rate(0, 100));
        x.answers(30, rate(2, 0), rate(2, 100));
        for (int r = 0; r <= 100; r++) x.and(rate(1, r)).answers(r, ofFlow(1, 0), bucket(1, 4), rate(1, 50));
        x.and(rate(1, 0)).answers(40, about(0, 6));
        x.and(rate(1, 100)).answers(140, about(0, 6));
        linksAndFlows(1, 16).answers(1, rate(15, 100));
        linksAndFlows(1, 16).refuses(UNKNOWN, rate(16, 100));
    }

    /** No state is named that refuses it. */
    private static void promise4InAnyState() {
        for (Run x : UNENDED) {
            x.answers(10, rate(0, 100));
            x.and(rate(0, 100)).answers(100, ofFlow(0, 0));
        }
        for (Run x : ENDED) x.answers(10, rate(0, 0));
    }

    private static void promise5FlowAndBucket() {
        Run x = linksAndFlows(1, 3);
        for (int b = -1; b <= 7; b++) x.answers(2, pin(2, b));
        for (int b = 0; b <= 7; b++) x.and(pin(2, b)).flowIs(2, 1, b, 0, 0, 0, 1);
        x.and(pin(2, -1)).flowIs(2, 1, 2, 0, 0, 0, 0);
        for (int f : new int[] {MIN, -1, 3, 16, MAX}) x.refuses(UNKNOWN, pin(f, 0), pin(f, -1), pin(f, -2), pin(f, 8));
        for (int b : new int[] {MIN, NONE, -2, 8, MAX}) x.refuses(OUTSIDE, pin(0, b), pin(2, b));
        linksAndFlows(1, 16).answers(7, pin(15, 0));
        linksAndFlows(1, 16).refuses(UNKNOWN, pin(16, 0));
    }

    /** STATE: it has LETTERS that are neither OUT nor LOST. */
    private static void promise5Unended() {
        for (Run x : UNENDED) {
            x.refuses(STATE, pin(0, 0), pin(0, 7), pin(0, -1));
            x.refuses(OUTSIDE, pin(0, 8), pin(0, -2));
            x.refuses(UNKNOWN, pin(2, 8), pin(-1, 0));
            x.answers(1, pin(1, 0), pin(1, 7), pin(1, -1));
        }
        for (Run x : ENDED) {
            x.answers(0, pin(0, 0), pin(0, 7), pin(0, -1));
            x.and(pin(0, 7)).answers(7, ofFlow(0, 1));
            x.and(pin(0, 7)).answers(0, letter(0, 2));
        }
        Run pinned = run(link(1, 1), flow(1), pin(0, 4), send(0, 1));
        pinned.refuses(STATE, pin(0, -1), pin(0, 4));
        pinned.and(tick(1)).refuses(STATE, pin(0, -1));
        pinned.and(tick(2)).answers(4, pin(0, -1));
    }

    private static void promise5BucketAhead() {
        Run x = run(flow(1), flow(1), hash(7, 7), pin(1, 7));
        x.answers(7, pin(1, 0));
        x.and(pin(1, 0)).answers(0, pin(1, -1));
        x.and(pin(1, 0)).answers(1, ofFlow(1, 5));
        x.and(pin(1, -1)).answers(6, pin(1, 3), ofFlow(1, 1));
        x.and(hash(0, 0)).answers(7, ofFlow(1, 1));
        x.and(hash(0, 0)).answers(0, ofFlow(0, 1));
        x.and(hash(0, 0), pin(1, -1)).answers(0, ofFlow(1, 1), ofFlow(1, 5));
    }

    /** A, C from 0 to 7. */
    private static void promise6FactorAndSummand() {
        Run x = linksAndFlows(1, 2);
        x.answers(1, hash(0, 0), hash(7, 7), hash(0, 7), hash(7, 0));
        for (int n : new int[] {MIN, -1, 8, MAX}) x.refuses(OUTSIDE, hash(n, 0), hash(n, 7), hash(0, n), hash(7, n), hash(n, n));
    }

    /** (FLOW times A and C) by 8, what is left. */
    private static void promise6WhatIsLeftByEight() {
        for (int a = 0; a <= 7; a++) {
            for (int c = 0; c <= 7; c++) {
                Run x = linksAndFlows(0, 16).and(hash(a, c));
                int due = c;
                for (int f = 0; f < 16; f++) {
                    x.answers(due, ofFlow(f, 1));
                    due += a;
                    if (due >= 8) due -= 8;
                }
            }
        }
        Run last = linksAndFlows(1, 16).and(hash(7, 7));
        last.answers(0, ofFlow(15, 1), ofFlow(7, 1));
        last.answers(7, ofFlow(0, 1), ofFlow(8, 1));
        last.and(send(15, 1)).answers(0, letter(0, 2));
    }

    /** STATE: there are LETTERS that are neither OUT nor LOST. */
    private static void promise6Unended() {
        for (Run x : UNENDED) {
            x.refuses(STATE, hash(0, 0), hash(1, 0), hash(7, 7));
            x.refuses(OUTSIDE, hash(8, 0), hash(0, 8), hash(-1, 0), hash(0, -1));
        }
        for (Run x : ENDED) {
            x.answers(1, hash(0, 0), hash(7, 7));
            x.refuses(OUTSIDE, hash(8, 0));
            x.and(hash(5, 6)).answers(6, ofFlow(0, 1));
            x.and(hash(5, 6)).answers(3, ofFlow(1, 1));
            x.and(hash(5, 6)).answers(0, letter(0, 2));
        }
    }

    private static void promise7Numbers() {
        run().answers(0, numbers(true), numbers(false), told(10));
        Run on = run(numbers(true));
        on.answers(1, numbers(true), numbers(false), told(10));
        on.and(numbers(true)).answers(1, told(10));
        on.and(numbers(false)).answers(0, told(10), numbers(true));
    }

    /** STATE: as in hash(); also if they are so already. */
    private static void promise7Unended() {
        for (Run x : UNENDED) x.refuses(STATE, numbers(true), numbers(false));
        for (Run x : ENDED) {
            x.answers(0, numbers(true), numbers(false));
            x.and(numbers(true)).answers(1, told(10));
        }
        Run onAndOut = run(numbers(true), link(1, 2), flow(1), send(0, 1), tick(3));
        onAndOut.statesAre("o");
        onAndOut.answers(1, numbers(false));
    }
}

/** The boundary cases of promises 10 and 11: move and drop. */
public final class EdgesMoveDropTest extends Calls {
    /** Link 3 is not up; bucket 0 has a letter queued at link 0, the others have none. */
    private static final Run FOUR_LINKS = run(link(1, 9), link(1, 2), link(1, 2), link(1, 2), fail(3), flow(5), flow(6), send(0, 1));
    private static final Run TO_MOVE_AT_A_GAP = FOUR_LINKS.and(move(0, 1, AT_A_GAP));
    private static final Run TO_MOVE_HOLDING = FOUR_LINKS.and(move(0, 1, HOLDING));
    /** As FOUR_LINKS, but with numbers on. */
    private static final Run NUMBERED = run(numbers(true), link(1, 9), link(1, 2), link(1, 2), link(1, 2), fail(3), flow(5), flow(6), send(0, 1));
    /** Bucket 0 is on link 2, its letter queued at link 0. */
    private static final Run HOLDS_AFTER_FAILING = NUMBERED.and(move(0, 1, AT_ONCE), fail(1));
    private static final Run ON_NO_LINK = FOUR_LINKS.and(fail(0), fail(1), fail(2));

    public static void main(String[] args) {
        theStatesAreAsTheirNames();
        promise10BucketLinkHow();
        promise10State();
        promise10No();
        promise10TheGapWhenTold();
        promise10TheGapAtATicksEnd();
        promise10Queued();
        promise10WhatWaitsIsNoHindrance();
        promise10AtOnce();
        promise10HeldIsQueuedInOrder();
        promise10HowOftenItMoved();
        promise11Bucket();
        promise11State();
        promise11HowManyWereHeld();
        promise11QueuedAtItsLink();
        Check.end();
    }

    private static void theStatesAreAsTheirNames() {
        TO_MOVE_AT_A_GAP.bucketIs(0, 0, 1, 0, 0, 5, 0);
        TO_MOVE_HOLDING.bucketIs(0, 0, 1, 1, 0, 5, 0);
        HOLDS_AFTER_FAILING.bucketIs(0, 2, NONE, 1, 0, 5, 1);
        ON_NO_LINK.bucketIs(0, NONE, NONE, 0, 0, 5, 0);
    }

    /** UNKNOWN: BUCKET, LINK; OUTSIDE: how. */
    private static void promise10BucketLinkHow() {
        for (int how = 0; how <= 1; how++) FOUR_LINKS.answers(1, move(1, 1, how), move(7, 1, how), move(1, 2, how), move(7, 2, how));
        NUMBERED.answers(1, move(0, 2, AT_ONCE), move(7, 2, AT_ONCE));
        for (Run x : new Run[] {FOUR_LINKS, TO_MOVE_AT_A_GAP, HOLDS_AFTER_FAILING, ON_NO_LINK}) {
            for (int b : new int[] {MIN, -1, 8, MAX}) x.refuses(UNKNOWN, move(b, 1, 0), move(b, 4, 0), move(b, 1, 3), move(b, 3, 2));
            for (int l : new int[] {MIN, -1, 4, MAX}) x.refuses(UNKNOWN, move(0, l, 0), move(7, l, 2), move(0, l, -1), move(0, l, 3));
            for (int how : new int[] {MIN, -1, 3, MAX}) x.refuses(OUTSIDE, move(0, 1, how), move(7, 0, how), move(7, 3, how), move(0, 0, how));
        }
        // Of fewer links the first that is not there is the next one.
        linksAndFlows(2, 1).answers(1, move(0, 1, 0));
        linksAndFlows(2, 1).refuses(UNKNOWN, move(0, 2, 0), move(0, 3, 0));
        run().refuses(UNKNOWN, move(0, 0, 0), move(8, 0, 3));
    }

    /** STATE: it is on no LINK, is to move already, or HOLDS; ahead of NO. */
    private static void promise10State() {
        for (Run x : new Run[] {TO_MOVE_AT_A_GAP, TO_MOVE_HOLDING, HOLDS_AFTER_FAILING, ON_NO_LINK}) {
            for (int l = 0; l < 4; l++) {
                for (int how = 0; how <= 2; how++) x.refuses(STATE, move(0, l, how));
            }
        }
        TO_MOVE_AT_A_GAP.answers(1, move(1, 1, 0));
        TO_MOVE_HOLDING.answers(1, move(1, 1, 0));
        HOLDS_AFTER_FAILING.answers(1, move(1, 2, 2));
        // As soon as it is there, or told no more to move, it may be told again.
        TO_MOVE_AT_A_GAP.and(tick(7)).refuses(STATE, move(0, 2, 0));
        TO_MOVE_AT_A_GAP.and(tick(8)).answers(1, move(0, 2, 0));
        TO_MOVE_HOLDING.and(tick(7)).refuses(STATE, move(0, 2, 0));
        TO_MOVE_HOLDING.and(tick(8)).answers(1, move(0, 2, 0));
        TO_MOVE_HOLDING.and(drop(0)).answers(0, move(0, 2, 0));
        HOLDS_AFTER_FAILING.and(tick(7)).refuses(STATE, move(0, 0, 0));
        HOLDS_AFTER_FAILING.and(tick(8)).answers(1, move(0, 0, 0));
        ON_NO_LINK.and(back(3)).answers(NO, move(0, 3, 0));
        ON_NO_LINK.and(back(3), back(1)).answers(1, move(0, 1, 0));
    }

    /** NO: that LINK is not UP, or it is on it, or 2 without NUMBERS. */
    private static void promise10No() {
        for (int how = 0; how <= 2; how++) {
            FOUR_LINKS.refuses(NO, move(0, 3, how), move(7, 3, how), move(0, 0, how), move(7, 0, how));
            NUMBERED.refuses(NO, move(0, 3, how), move(7, 3, how), move(0, 0, how), move(7, 0, how));
        }
        FOUR_LINKS.refuses(NO, move(0, 1, AT_ONCE), move(7, 1, AT_ONCE));
        FOUR_LINKS.and(back(3)).answers(1, move(7, 3, 0));
        FOUR_LINKS.and(back(3)).refuses(NO, move(7, 3, AT_ONCE));
        Run moved = FOUR_LINKS.and(move(7, 1, 0));
        moved.refuses(NO, move(7, 1, 0), move(7, 1, 1));
        moved.answers(1, move(7, 0, 0));
    }

    /** Each one ON its WAY arrives before TIME and 1 and the DELAY of the new LINK. */
    private static void promise10TheGapWhenTold() {
        int[] delays = {1, 2, 9, 29, 30};
        for (int from : delays) {
            for (int to : delays) {
                // It leaves at 1 and arrives at 1 and from; at time t that is before t and 1 and to if t is above from less to.
                int last = from - to;
                Run x = run(link(1, from), link(1, to), flow(5), send(0, 1));
                for (int how = 0; how <= 1; how++) {
                    if (last >= 1) {
                        x.and(tick(last)).answers(0, move(0, 1, how));
                        x.and(tick(last), move(0, 1, how)).bucketIs(0, 0, 1, how, 0, 5, 0);
                    }
                    int first = Math.max(1, last + 1);
                    x.and(tick(first)).answers(1, move(0, 1, how));
                    x.and(tick(first), move(0, 1, how)).bucketIs(0, 1, NONE, 0, 0, 5, 1);
                    x.and(tick(31)).answers(1, move(0, 1, how));
                }
            }
        }
    }

    private static void promise10TheGapAtATicksEnd() {
        int[] delays = {1, 2, 9, 29, 30};
        for (int from : delays) {
            for (int to : delays) {
                int first = Math.max(1, from - to + 1);
                for (int how = 0; how <= 1; how++) {
                    Run x = run(link(1, from), link(1, to), flow(5), send(0, 1));
                    x.answers(0, move(0, 1, how));
                    Run told = x.and(move(0, 1, how));
                    told.and(tick(first - 1)).bucketIs(0, 0, 1, how, 0, 5, 0);
                    told.and(tick(first)).bucketIs(0, 1, NONE, 0, 0, 5, 1);
                    // What is sent at once then comes out behind the first.
                    Run behind = told.and(tick(first), send(0, 1), tick(62));
                    behind.answers(0, out(0));
                    behind.answers(1, out(1), ordered(0));
                }
            }
        }
    }

    /** None of its LETTERS is QUEUED: its own, of all its flows, and no other's. */
    private static void promise10Queued() {
        Run x = run(link(1, 3), link(1, 3), flow(1), flow(2), flow(3), pin(2, 0));
        x.and(send(1, 5)).answers(1, move(0, 1, 0), move(0, 1, 1), move(2, 1, 0));
        x.and(send(1, 5)).answers(0, move(1, 1, 0), move(1, 1, 1));
        x.and(send(2, 1)).answers(0, move(0, 1, 0), move(0, 1, 1));
        x.and(send(2, 1)).answers(1, move(2, 1, 0), move(2, 1, 1));
        for (int how = 0; how <= 1; how++) {
            // The second one is queued until time 2, though the first could be followed at 1.
            Run two = x.and(send(0, 2), move(0, 1, how));
            two.and(tick(1)).answers(0, bucket(0, 0));
            two.and(tick(2)).answers(1, bucket(0, 0));
            // Behind another bucket's letter its own leaves at 2 alone.
            Run behind = x.and(send(1, 1), send(0, 1), move(0, 1, how));
            behind.and(tick(1)).answers(0, bucket(0, 0));
            behind.and(tick(2)).answers(1, bucket(0, 0));
        }
        // At a gap what is sent goes on at the old link, and so the bucket stays as long as more are sent.
        Run more = x.and(send(0, 2), move(0, 1, AT_A_GAP), tick(1), send(0, 1), tick(1));
        more.answers(0, bucket(0, 0), letter(2, 4));
        more.and(tick(1)).answers(1, bucket(0, 0));
    }

    private static void promise10WhatWaitsIsNoHindrance() {
        // Letter 0 is by link 0 until 6; letter 1 waits for it from 3 on.
        Run x = run(numbers(true), link(1, 5), link(1, 1), link(1, 1), flow(1), send(0, 1), tick(1), move(0, 1, AT_ONCE), send(0, 1), tick(3));
        x.statesAre("yw");
        x.answers(0, move(0, 2, AT_A_GAP), move(0, 2, HOLDING));
        x.and(tick(1)).statesAre("yw");
        x.and(tick(1)).answers(1, move(0, 2, AT_A_GAP), move(0, 2, HOLDING));
        x.and(fail(0)).statesAre("lw");
        x.and(fail(0)).answers(1, move(0, 2, AT_A_GAP), move(0, 2, HOLDING));
        x.and(fail(0), move(0, 2, HOLDING)).statesAre("lw");
    }

    /** AT ONCE (2; only with NUMBERS on): it is there, whatever is underway. */
    private static void promise10AtOnce() {
        Run x = run(numbers(true), link(1, 30), link(1, 1), flow(5), send(0, 50));
        x.answers(1, move(0, 1, AT_ONCE));
        x.and(tick(1)).answers(1, move(0, 1, AT_ONCE));
        x.and(tick(1), move(0, 1, AT_ONCE)).bucketIs(0, 1, NONE, 0, 0, 5, 1);
        x.and(tick(1), move(0, 1, AT_ONCE)).aboutIs(0, 1, 30, 1, 49, 1, 7, 0, 1);
        x.answers(0, move(0, 1, AT_A_GAP), move(0, 1, HOLDING));
        x.and(tick(80)).answers(1, numbers(false));
        x.and(tick(80), numbers(false)).refuses(NO, move(0, 1, AT_ONCE));
    }

    /** What was HELD is QUEUED there, in order, behind what is there. */
    private static void promise10HeldIsQueuedInOrder() {
        Run x = run(link(1, 9), link(1, 2), flow(5), flow(6), move(1, 1, AT_A_GAP), send(0, 1), tick(7),
            move(0, 1, HOLDING), send(0, 2), send(1, 3));
        x.statesAre("yhhqqq");
        Run there = x.and(tick(1), send(0, 1));
        there.statesAre("yqqyqqq");
        there.aboutIs(1, 1, 2, 1, 5, 1, 2, 11, 1);
        int[] due = {1, 11, 12, 8, 9, 10, 13};
        for (int i = 0; i < 7; i++) there.and(tick(5)).answers(due[i], letter(i, 6));
    }

    /** How often it moved ever (by move(); not by failing). */
    private static void promise10HowOftenItMoved() {
        TO_MOVE_AT_A_GAP.answers(0, bucket(0, 5));
        TO_MOVE_AT_A_GAP.and(drop(0), tick(50)).answers(0, bucket(0, 5));
        TO_MOVE_AT_A_GAP.and(tick(7)).answers(0, bucket(0, 5));
        TO_MOVE_AT_A_GAP.and(tick(8)).answers(1, bucket(0, 5));
        TO_MOVE_AT_A_GAP.and(fail(0)).answers(0, bucket(0, 5), bucket(1, 5));
        TO_MOVE_AT_A_GAP.and(fail(1), tick(50)).answers(0, bucket(0, 5));
        HOLDS_AFTER_FAILING.and(tick(50)).answers(1, bucket(0, 5));
        ON_NO_LINK.and(back(0), tick(1)).answers(0, bucket(0, 5));
        FOUR_LINKS.and(least(1000), least(0)).answers(0, bucket(0, 5));
        Run often = linksAndFlows(2, 1);
        for (int n = 1; n <= 40; n++) {
            often = often.and(move(3, n % 2, n / 2 % 2));
            often.answers(n, bucket(3, 5));
        }
        often.answers(0, bucket(2, 5), bucket(4, 5));
    }

    private static void promise11Bucket() {
        for (Run x : new Run[] {run(), FOUR_LINKS, TO_MOVE_AT_A_GAP, TO_MOVE_HOLDING, HOLDS_AFTER_FAILING, ON_NO_LINK}) {
            x.refuses(UNKNOWN, drop(MIN), drop(-1), drop(8), drop(MAX));
        }
        Run last = run(link(1, 9), link(1, 2), flow(1), pin(0, 7), send(0, 1), move(7, 1, HOLDING), send(0, 1));
        last.answers(1, drop(7));
        last.refuses(STATE, drop(0), drop(6));
    }

    /** STATE: it is not to move. */
    private static void promise11State() {
        run().refuses(STATE, drop(0), drop(7));
        FOUR_LINKS.refuses(STATE, drop(0), drop(7));
        TO_MOVE_AT_A_GAP.refuses(STATE, drop(1), drop(7));
        HOLDS_AFTER_FAILING.refuses(STATE, drop(0));
        HOLDS_AFTER_FAILING.and(send(0, 3)).refuses(STATE, drop(0));
        ON_NO_LINK.refuses(STATE, drop(0));
        for (Run x : new Run[] {TO_MOVE_AT_A_GAP, TO_MOVE_HOLDING}) {
            x.answers(0, drop(0));
            x.and(tick(7)).answers(0, drop(0));
            x.and(tick(8)).refuses(STATE, drop(0));
            x.and(drop(0)).refuses(STATE, drop(0));
            x.and(fail(0)).refuses(STATE, drop(0));
            x.and(fail(1)).refuses(STATE, drop(0));
            x.and(fail(2)).answers(0, drop(0));
        }
        NUMBERED.and(move(0, 1, AT_ONCE)).refuses(STATE, drop(0));
    }

    private static void promise11HowManyWereHeld() {
        TO_MOVE_HOLDING.answers(0, drop(0));
        TO_MOVE_HOLDING.and(send(0, 1)).answers(1, drop(0));
        TO_MOVE_HOLDING.and(send(0, 50), send(1, 3)).answers(50, drop(0));
        Run most = TO_MOVE_HOLDING.times(7, send(0, 50)).and(send(0, 49));
        most.answers(399, drop(0), told(4));
        most.and(drop(0)).aboutIs(0, 1, 9, 1, 400, 0, 8, 11, 0);
        TO_MOVE_AT_A_GAP.and(send(0, 50)).answers(0, drop(0));
    }

    /** HOLDS no more; what was HELD is QUEUED at its LINK, behind all others. */
    private static void promise11QueuedAtItsLink() {
        Run x = TO_MOVE_HOLDING.and(send(0, 2), send(1, 1));
        x.statesAre("qhhq");
        Run dropped = x.and(drop(0));
        dropped.statesAre("qqqq");
        dropped.bucketIs(0, 0, NONE, 0, 0, 5, 0);
        Run after = dropped.and(send(0, 1), tick(5));
        int[] due = {1, 3, 4, 2, 5};
        for (int i = 0; i < 5; i++) {
            after.answers(due[i], letter(i, 6));
            after.answers(0, letter(i, 4));
        }
        TO_MOVE_AT_A_GAP.and(drop(0)).bucketIs(0, 0, NONE, 0, 0, 5, 0);
        TO_MOVE_AT_A_GAP.and(drop(0), tick(500)).answers(0, bucket(0, 0));
    }
}

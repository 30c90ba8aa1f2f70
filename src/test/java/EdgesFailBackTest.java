/** The boundary cases of promises 12 and 13: fail and back. */
public final class EdgesFailBackTest extends Calls {
    public static void main(String[] args) {
        promise12Link();
        promise12State();
        promise12HowManyAreLost();
        promise12LostUntilItArrives();
        promise12WhatIsNotLost();
        promise12FewestBuckets();
        promise12OnlyLinksThatAreUp();
        promise12ToMoveThere();
        promise12ToMoveFromThere();
        promise12HoldsUntilItCouldHaveCome();
        promise12HoldsForWhatIsQueued();
        promise12FailsAgainWhileItHolds();
        promise12TheLastLink();
        promise13Link();
        promise13State();
        promise13HowManyItTakes();
        promise13HeldIsQueued();
        Check.end();
    }

    private static void promise12Link() {
        for (int links = 0; links <= 4; links++) {
            Run x = linksAndFlows(links, 1);
            x.refuses(UNKNOWN, fail(MIN), fail(-1), fail(links), fail(MAX));
            for (int l = 0; l < links; l++) x.answers(0, fail(l));
        }
    }

    /** STATE: it is not UP. */
    private static void promise12State() {
        Run x = run(link(1, 9), link(1, 2), flow(1), send(0, 1), fail(0));
        x.refuses(STATE, fail(0));
        x.refuses(UNKNOWN, fail(2), fail(-1));
        x.answers(0, fail(1));
        x.and(fail(1)).refuses(STATE, fail(0), fail(1));
        x.and(back(0)).answers(0, fail(0));
        x.and(back(0), fail(0)).refuses(STATE, fail(0));
    }

    private static void promise12HowManyAreLost() {
        Run x = run(link(2, 3), link(1, 9), flow(1), flow(2), move(1, 1, AT_A_GAP));
        x.answers(0, fail(0), fail(1));
        x.and(send(0, 5)).answers(5, fail(0));
        x.and(send(0, 5)).answers(0, fail(1));
        x.and(send(0, 5), tick(1)).answers(5, fail(0));
        x.and(send(0, 5), tick(3)).answers(5, fail(0));
        x.and(send(0, 5), tick(4)).answers(3, fail(0));
        x.and(send(0, 5), tick(5)).answers(1, fail(0));
        x.and(send(0, 5), tick(6)).answers(0, fail(0));
        Run both = x.and(send(0, 2), send(1, 2), tick(1), fail(0));
        both.statesAre("llyq");
        both.flowIs(0, 1, 0, 2, 0, 2, 0);
        both.flowIs(1, 2, 1, 2, 0, 0, 0);
        both.answers(2, told(9), fail(1));
        both.and(fail(1)).toldIs(1, 2, 2, 4, 0, 0, 0, 0, 0, 4, 0);
        both.and(fail(1)).letterIs(2, 1, 0, 1, LOST, 1, 0, 1, 10, 1);
        both.and(fail(1)).letterIs(3, 1, 1, 1, LOST, 1, 0, NONE, NONE, 1);
    }

    /** ON its WAY until the TICK in which it arrives. */
    private static void promise12LostUntilItArrives() {
        for (int delay : new int[] {1, 2, 30}) {
            for (boolean on : new boolean[] {false, true}) {
                Run x = run(numbers(on), link(1, delay), flow(1), send(0, 1));
                x.and(tick(delay)).answers(1, fail(0));
                x.and(tick(delay), fail(0)).letterIs(0, 0, 0, 0, LOST, 0, 0, 1, 1 + delay, delay);
                x.and(tick(delay + 1)).answers(0, fail(0));
                x.and(tick(delay + 1), fail(0)).letterIs(0, 0, 0, 0, OUT, 0, 0, 1, 1 + delay, 1 + delay);
            }
        }
    }

    /** Neither what WAITS, nor what is HELD, nor what is OUT or LOST already. */
    private static void promise12WhatIsNotLost() {
        Run waits = run(numbers(true), link(1, 9), link(1, 1), flow(1), send(0, 1), move(0, 1, AT_ONCE), send(0, 1), tick(2));
        waits.statesAre("yw");
        waits.answers(0, fail(1));
        waits.and(fail(1)).statesAre("yw");
        waits.answers(1, fail(0));
        waits.and(fail(0)).statesAre("lw");
        waits.and(fail(0), fail(1), tick(1)).statesAre("lo");
        Run held = run(link(1, 9), link(1, 2), flow(1), send(0, 1), move(0, 1, HOLDING), send(0, 2));
        held.answers(1, fail(0));
        held.and(fail(0)).statesAre("lqq");
        held.and(fail(0)).answers(2, fail(1));
        held.and(fail(0), back(0)).answers(0, fail(0));
    }

    /** The UP LINK with the fewest BUCKETS, of several the least number; by BUCKETS' numbers, each counted. */
    private static void promise12FewestBuckets() {
        Run like = linksAndFlows(4, 1);
        bucketsAreOn(like.and(fail(0)), 1, 2, 3, 1, 2, 3, 1, 2);
        bucketsAreOn(like.and(move(6, 1, 0), move(7, 2, 0), fail(0)), 3, 1, 2, 3, 1, 2, 1, 2);
        bucketsAreOn(like.and(move(7, 3, 0), fail(0)), 1, 2, 1, 2, 3, 1, 2, 3);
        bucketsAreOn(like.and(move(0, 3, 0), move(1, 3, 0), fail(3)), 1, 2, 0, 0, 0, 0, 0, 0);
        bucketsAreOn(like.and(fail(1)), 0, 0, 0, 0, 0, 0, 0, 0);
        // Links 0 and 1 have three each, link 2 has two and link 3 none.
        Run full = like.and(move(3, 1, 0), move(4, 1, 0), move(5, 1, 0), move(6, 2, 0), move(7, 2, 0));
        bucketsAreOn(full.and(move(2, 3, 0), fail(3)), 0, 0, 0, 1, 1, 1, 2, 2);
        bucketsAreOn(full.and(fail(2)), 0, 0, 0, 1, 1, 1, 3, 3);
        bucketsAreOn(full.and(fail(3), fail(2)), 0, 0, 0, 1, 1, 1, 0, 1);
        bucketsAreOn(full.and(fail(3), fail(0)), 2, 1, 2, 1, 1, 1, 2, 2);
    }

    private static void promise12OnlyLinksThatAreUp() {
        Run x = linksAndFlows(4, 1);
        bucketsAreOn(x.and(fail(1), fail(0)), 2, 3, 2, 3, 2, 3, 2, 3);
        bucketsAreOn(x.and(fail(1), fail(2), fail(0)), 3, 3, 3, 3, 3, 3, 3, 3);
        bucketsAreOn(x.and(fail(1), fail(2), fail(3), fail(0)), NONE, NONE, NONE, NONE, NONE, NONE, NONE, NONE);
        bucketsAreOn(x.and(fail(1), back(1), fail(0)), 1, 2, 3, 1, 2, 3, 1, 2);
    }

    private static void bucketsAreOn(Run x, int... links) {
        for (int b = 0; b < 8; b++) x.answers(links[b], bucket(b, 0));
    }

    /** They are not to any more; they HOLD no more; what was HELD is QUEUED at their LINK. */
    private static void promise12ToMoveThere() {
        Run x = run(link(1, 9), link(1, 2), link(1, 2), flow(5), flow(6), flow(7), send(0, 1), send(1, 1), send(2, 1),
            move(2, 2, HOLDING), move(1, 1, AT_A_GAP), move(0, 1, HOLDING), send(0, 2), send(1, 1), send(2, 1));
        x.statesAre("qqqhhqh");
        x.answers(0, fail(1));
        Run failed = x.and(fail(1));
        failed.statesAre("qqqqqqh");
        failed.bucketIs(0, 0, NONE, 0, 0, 5, 0);
        failed.bucketIs(1, 0, NONE, 0, 0, 6, 0);
        failed.bucketIs(2, 0, 2, 1, 1, 7, 0);
        failed.aboutIs(0, 1, 9, 1, 6, 0, 8, 18, 0);
        int[] due = {1, 2, 3, 5, 6, 4};
        for (int i = 0; i < 6; i++) failed.and(tick(6)).answers(due[i], letter(i, 6));
        bucketsAreOn(failed.and(tick(500)), 0, 0, 2, 0, 0, 0, 0, 0);
        bucketsAreOn(failed.and(back(1), tick(500)), 0, 0, 2, 0, 0, 0, 0, 0);
    }

    /** It is to move no more, and goes where the fewest are, not where it was to. */
    private static void promise12ToMoveFromThere() {
        Run x = run(link(1, 9), link(1, 2), link(1, 2), flow(5), send(0, 1), move(7, 1, AT_A_GAP));
        for (int how = 0; how <= 1; how++) {
            Run toMove = x.and(move(0, 1, how), send(0, 1));
            toMove.answers(2 - how, fail(0));
            Run failed = toMove.and(fail(0));
            failed.bucketIs(0, 2, NONE, 0, 0, 5, 0);
            failed.statesAre(how == 0 ? "ll" : "lq");
            failed.and(tick(500)).bucketIs(0, 2, NONE, 0, 0, 5, 0);
        }
        // It goes to the very link, but has not moved.
        Run same = run(link(1, 9), link(1, 2), flow(5), send(0, 1), move(0, 1, HOLDING), send(0, 1), fail(0));
        same.bucketIs(0, 1, NONE, 0, 0, 5, 0);
        same.statesAre("lq");
    }

    /** Asked at once, then at TICKS' ends: what is ON its WAY arrives before TIME and 1 and DELAY. */
    private static void promise12HoldsUntilItCouldHaveCome() {
        for (int delay : new int[] {1, 17, 18, 19, 30}) {
            // Letter 0 leaves link 0 at 1 and arrives at 21; link 1 fails at time 2, and bucket 0 is on link 2.
            Run x = run(link(1, 20), link(1, 20), link(8, delay), flow(5), send(0, 1), tick(1), move(0, 1, AT_A_GAP), tick(1), fail(1));
            x.answers(2, bucket(0, 0));
            int first = Math.max(2, 21 - delay);
            x.answers(first == 2 ? 0 : 1, bucket(0, 2));
            if (first > 2) x.and(tick(first - 3)).answers(1, bucket(0, 2));
            x.and(tick(first - 2)).answers(0, bucket(0, 2));
            x.and(tick(first - 2)).answers(NONE, bucket(0, 1));
            Run sent = x.and(send(0, 1));
            sent.statesAre(first == 2 ? "yq" : "yh");
            if (first > 2) sent.and(tick(first - 3)).statesAre("yh");
            sent.and(tick(first - 2)).answers(2, letter(1, 4));
            sent.and(tick(100)).statesAre("oo");
            sent.and(tick(100)).answers(1, out(1), ordered(0));
        }
    }

    /** None of its LETTERS is QUEUED, at whatever LINK. */
    private static void promise12HoldsForWhatIsQueued() {
        Run x = run(numbers(true), link(1, 1), link(1, 1), flow(5), send(0, 2), move(0, 1, AT_ONCE), send(0, 1), fail(1), send(0, 1));
        x.statesAre("qqlh");
        x.bucketIs(0, 0, NONE, 1, 1, 5, 1);
        x.and(tick(1)).statesAre("yqlh");
        x.and(tick(1)).answers(1, bucket(0, 2));
        x.and(tick(2)).statesAre("oylq");
        x.and(tick(2)).bucketIs(0, 0, NONE, 0, 0, 5, 1);
        x.and(tick(4)).statesAre("oolo");
    }

    private static void promise12FailsAgainWhileItHolds() {
        // Letter 0 is by link 0 until 31; bucket 0 goes to link 1, by failing to 2, by failing to 3.
        Run x = run(link(1, 30), link(1, 30), link(1, 2), link(1, 1), flow(5), flow(6), send(0, 1), tick(1), move(0, 1, AT_A_GAP),
            move(7, 3, AT_A_GAP), fail(1), send(0, 2));
        x.bucketIs(0, 2, NONE, 1, 2, 5, 1);
        x.answers(0, fail(2));
        Run again = x.and(fail(2));
        again.bucketIs(0, 3, NONE, 1, 2, 5, 1);
        again.and(tick(28)).bucketIs(0, 3, NONE, 1, 2, 5, 1);
        again.and(tick(29)).bucketIs(0, 3, NONE, 0, 0, 5, 1);
        again.and(tick(29)).answers(3, letter(1, 4), letter(2, 4));
        // The one for which it held is lost: asked at once, it could come.
        Run lost = x.and(fail(0));
        lost.answers(1, bucket(0, 2));
        lost.and(tick(1)).bucketIs(0, 2, NONE, 0, 0, 5, 1);
        Run lostThenFails = lost.and(fail(2));
        lostThenFails.bucketIs(0, 3, NONE, 0, 0, 5, 1);
        lostThenFails.statesAre("lqq");
    }

    /** Without any UP LINK on none: to move no more; what was HELD stays so, and what is sent is HELD. */
    private static void promise12TheLastLink() {
        Run none = run(link(1, 9), flow(5), send(0, 2), tick(1), fail(0));
        none.statesAre("ll");
        bucketsAreOn(none, NONE, NONE, NONE, NONE, NONE, NONE, NONE, NONE);
        none.bucketIs(0, NONE, NONE, 0, 0, 5, 0);
        none.aboutIs(0, 1, 9, 0, 0, 0, 0, 0, 1);
        Run sent = none.and(send(0, 2), tick(500));
        sent.statesAre("llhh");
        sent.bucketIs(0, NONE, NONE, 0, 2, 5, 0);
        sent.refuses(STATE, fail(0), even(0), least(0), move(0, 0, 0), drop(0));
        // Bucket 0 holds on link 0 for what is queued there, with one held, when that last link fails.
        Run holds = run(numbers(true), link(1, 9), link(1, 2), flow(5), send(0, 1), move(0, 1, AT_ONCE), fail(1), send(0, 1));
        holds.bucketIs(0, 0, NONE, 1, 1, 5, 1);
        holds.answers(1, fail(0));
        Run onNone = holds.and(fail(0));
        onNone.statesAre("lh");
        onNone.bucketIs(0, NONE, NONE, 0, 1, 5, 1);
        onNone.and(tick(3)).statesAre("lh");
        onNone.and(back(1), send(0, 1)).statesAre("lqq");
        onNone.and(back(1)).bucketIs(0, 1, NONE, 0, 0, 5, 1);
    }

    private static void promise13Link() {
        for (int links = 0; links <= 4; links++) {
            Run x = linksAndFlows(links, 1);
            x.refuses(UNKNOWN, back(MIN), back(-1), back(links), back(MAX));
            for (int l = 0; l < links; l++) x.refuses(STATE, back(l));
            for (int l = 0; l < links; l++) x.and(fail(l)).answers(links == 1 ? 8 : 0, back(l));
        }
    }

    /** STATE: it is UP. */
    private static void promise13State() {
        Run x = linksAndFlows(2, 1).and(fail(0));
        x.refuses(STATE, back(1));
        x.refuses(UNKNOWN, back(2), back(-1));
        x.answers(0, back(0));
        x.and(back(0)).refuses(STATE, back(0), back(1));
        x.and(back(0)).answers(1, about(0, 2));
        x.and(fail(1)).answers(8, back(0), back(1));
    }

    /** BUCKETS on no LINK are on it: all, if no LINK was UP, and else none. */
    private static void promise13HowManyItTakes() {
        Run x = linksAndFlows(3, 1).and(fail(0), fail(1), fail(2));
        for (int l = 0; l < 3; l++) {
            x.answers(8, back(l));
            bucketsAreOn(x.and(back(l)), l, l, l, l, l, l, l, l);
            int next = (l + 1) % 3;
            x.and(back(l)).answers(0, back(next));
            bucketsAreOn(x.and(back(l), back(next)), l, l, l, l, l, l, l, l);
        }
        // Those that were on it before it failed do not come back by themselves.
        bucketsAreOn(linksAndFlows(2, 1).and(fail(0), back(0), tick(9)), 1, 1, 1, 1, 1, 1, 1, 1);
    }

    private static void promise13HeldIsQueued() {
        Run x = run(link(2, 9), flow(5), flow(6), fail(0), send(1, 1), tick(3), send(0, 2));
        x.statesAre("hhh");
        Run back = x.and(back(0));
        back.statesAre("qqq");
        back.aboutIs(0, 2, 9, 1, 3, 0, 8, 11, 0);
        back.bucketIs(0, 0, NONE, 0, 0, 5, 0);
        back.and(tick(1)).answers(4, letter(1, 6), letter(2, 6));
        back.and(tick(2)).answers(5, letter(0, 6));
        back.and(tick(14)).statesAre("ooo");
        x.and(back(0), send(0, 1)).statesAre("qqqq");
        // Nothing that was lost comes back.
        Run lost = run(link(1, 9), flow(5), send(0, 3), tick(1), fail(0), back(0), tick(50));
        lost.statesAre("lll");
        lost.aboutIs(0, 1, 9, 1, 0, 0, 8, 5, 1);
    }
}

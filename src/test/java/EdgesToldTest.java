/** The boundary cases of promises 14 to 20: what is told. */
public final class EdgesToldTest extends Calls {
    /**
     * At time 12 a letter in each state: 0 out, 1 lost on its way and 2 in the queue of link 0, 3 on
     * its way by link 1, 4 queued there, 5 held with bucket 1, which is to move to link 2.
     */
    private static final Run ALL_BUT_WAITING = run(link(1, 5), link(1, 10), link(2, 3), flow(10), flow(20), pin(1, 6),
        move(6, 1, AT_A_GAP), tick(2), send(0, 1), tick(8), send(0, 2), tick(1), fail(0), send(1, 2), tick(1), move(6, 2, HOLDING), send(1, 1));
    /** At time 3 letter 0 is on its way by link 0, and 1 waits for it. */
    private static final Run WAITING = run(numbers(true), link(1, 9), link(1, 1), flow(10), send(0, 1), move(0, 1, AT_ONCE), send(0, 1), tick(3));

    public static void main(String[] args) {
        theStatesAreAsTheirNames();
        promise14LetterAndWhat();
        promise14EachState();
        promise14TheLastOf400();
        promise15LinkAndWhat();
        promise15EachWhat();
        promise16BucketAndWhat();
        promise16EachWhat();
        promise17FlowAndWhat();
        promise17EachWhat();
        promise18Out();
        promise19Ordered();
        promise20What();
        promise20EachWhat();
        Check.end();
    }

    private static void theStatesAreAsTheirNames() {
        ALL_BUT_WAITING.statesAre("ollyqh");
        WAITING.statesAre("yw");
    }

    private static void promise14LetterAndWhat() {
        for (int i : new int[] {MIN, -1, 6, 399, 400, MAX}) {
            ALL_BUT_WAITING.refuses(UNKNOWN, letter(i, 0), letter(i, 8), letter(i, -1), letter(i, 9));
        }
        for (int what : new int[] {MIN, -1, 9, MAX}) ALL_BUT_WAITING.refuses(OUTSIDE, letter(0, what), letter(5, what));
        for (int what = 0; what <= 8; what++) {
            ALL_BUT_WAITING.onlyTells(new int[] {0, 0, 0, OUT, 0, 2, 3, 8, 8}[what], letter(0, what));
            ALL_BUT_WAITING.onlyTells(new int[] {1, 2, 6, HELD, NONE, 12, NONE, NONE, NONE}[what], letter(5, what));
        }
        WAITING.refuses(UNKNOWN, letter(2, 0), letter(2, 9));
        WAITING.refuses(OUTSIDE, letter(1, 9), letter(1, -1));
        run().refuses(UNKNOWN, letter(0, 0), letter(0, 9), letter(-1, 0));
        run(flow(1)).refuses(UNKNOWN, letter(0, 0));
    }

    /** 4 NONE: it was QUEUED at none yet; 6 to 8 NONE, as it is not so yet. */
    private static void promise14EachState() {
        ALL_BUT_WAITING.letterIs(0, 0, 0, 0, OUT, 0, 2, 3, 8, 8);
        ALL_BUT_WAITING.letterIs(1, 0, 1, 0, LOST, 0, 10, 11, 16, 11);
        ALL_BUT_WAITING.letterIs(2, 0, 2, 0, LOST, 0, 10, NONE, NONE, 11);
        ALL_BUT_WAITING.letterIs(3, 1, 0, 6, ON_ITS_WAY, 1, 11, 12, 22, NONE);
        ALL_BUT_WAITING.letterIs(4, 1, 1, 6, QUEUED, 1, 11, NONE, NONE, NONE);
        ALL_BUT_WAITING.letterIs(5, 1, 2, 6, HELD, NONE, 12, NONE, NONE, NONE);
        WAITING.letterIs(0, 0, 0, 0, ON_ITS_WAY, 0, 0, 1, 10, NONE);
        WAITING.letterIs(1, 0, 1, 0, WAITS, 1, 0, 1, 2, NONE);
        WAITING.and(tick(7)).letterIs(1, 0, 1, 0, OUT, 1, 0, 1, 2, 10);
        // One that was held is queued where its bucket then is, and not where it was.
        ALL_BUT_WAITING.and(drop(6)).letterIs(5, 1, 2, 6, QUEUED, 1, 12, NONE, NONE, NONE);
        ALL_BUT_WAITING.and(fail(1)).letterIs(5, 1, 2, 6, QUEUED, 2, 12, NONE, NONE, NONE);
    }

    private static void promise14TheLastOf400() {
        Run x = linksAndFlows(1, 1).times(8, send(0, 50));
        x.letterIs(399, 0, 399, 0, QUEUED, 0, 0, NONE, NONE, NONE);
        x.answers(UNKNOWN, letter(400, 0), letter(400, 9));
        x.answers(OUTSIDE, letter(399, 9), letter(399, -1));
        x.and(tick(401)).letterIs(399, 0, 399, 0, OUT, 0, 0, 400, 401, 401);
    }

    private static void promise15LinkAndWhat() {
        for (int links = 0; links <= 4; links++) {
            Run x = linksAndFlows(links, 1);
            for (int l : new int[] {MIN, -1, links, MAX}) x.refuses(UNKNOWN, about(l, 0), about(l, 7), about(l, -1), about(l, 8));
            for (int l = 0; l < links; l++) x.refuses(OUTSIDE, about(l, MIN), about(l, -1), about(l, 8), about(l, MAX));
            for (int l = 0; l < links; l++) x.aboutIs(l, 1, 1, 1, 0, 0, l == 0 ? 8 : 0, l == 0 ? 1 : 0, 0);
        }
        ALL_BUT_WAITING.refuses(OUTSIDE, about(0, 8), about(2, -1));
        ALL_BUT_WAITING.refuses(UNKNOWN, about(3, 0), about(3, 8));
        for (int what = 0; what <= 7; what++) ALL_BUT_WAITING.onlyTells(new int[] {1, 10, 1, 1, 1, 4, 20, 1}[what], about(1, what));
    }

    private static void promise15EachWhat() {
        // Of link 0's buckets, link 1 having bucket 6: 0 went to 2, 1 to 1, 2 to 2, 3 to 1, 4 to 2, 5 to 1, 7 to 2.
        ALL_BUT_WAITING.aboutIs(0, 1, 5, 0, 0, 0, 0, 0, 2);
        ALL_BUT_WAITING.aboutIs(1, 1, 10, 1, 1, 1, 4, 20, 1);
        ALL_BUT_WAITING.aboutIs(2, 2, 3, 1, 0, 0, 4, 10, 0);
        WAITING.aboutIs(0, 1, 9, 1, 0, 1, 7, 0, 1);
        WAITING.aboutIs(1, 1, 1, 1, 0, 0, 1, 10, 1);
        WAITING.and(fail(1)).aboutIs(1, 1, 1, 0, 0, 0, 0, 0, 1);
        Run most = run(link(8, 30)).times(16, flow(100)).times(8, send(0, 50));
        most.aboutIs(0, 8, 30, 1, 400, 0, 8, 1600, 0);
        most.and(tick(30)).aboutIs(0, 8, 30, 1, 160, 240, 8, 1600, 240);
        most.and(tick(50)).aboutIs(0, 8, 30, 1, 0, 240, 8, 1600, 400);
        most.and(tick(80)).aboutIs(0, 8, 30, 1, 0, 0, 8, 1600, 400);
    }

    private static void promise16BucketAndWhat() {
        for (Run x : new Run[] {run(), ALL_BUT_WAITING}) {
            for (int b : new int[] {MIN, -1, 8, MAX}) x.refuses(UNKNOWN, bucket(b, 0), bucket(b, 5), bucket(b, -1), bucket(b, 6));
            for (int what : new int[] {MIN, -1, 6, MAX}) x.refuses(OUTSIDE, bucket(0, what), bucket(7, what));
        }
        for (int what = 0; what <= 5; what++) {
            ALL_BUT_WAITING.onlyTells(new int[] {1, 2, 1, 1, 20, 1}[what], bucket(6, what));
            run().onlyTells(new int[] {NONE, NONE, 0, 0, 0, 0}[what], bucket(7, what), bucket(0, what));
        }
    }

    private static void promise16EachWhat() {
        ALL_BUT_WAITING.bucketIs(0, 2, NONE, 0, 0, 10, 0);
        ALL_BUT_WAITING.bucketIs(1, 1, NONE, 0, 0, 0, 0);
        ALL_BUT_WAITING.bucketIs(6, 1, 2, 1, 1, 20, 1);
        ALL_BUT_WAITING.bucketIs(7, 2, NONE, 0, 0, 0, 0);
        Run most = linksAndFlows(0, 0).times(16, flow(100)).and(hash(0, 7)).times(8, send(3, 50));
        most.bucketIs(7, NONE, NONE, 0, 400, 1600, 0);
        most.bucketIs(0, NONE, NONE, 0, 0, 0, 0);
    }

    private static void promise17FlowAndWhat() {
        for (int flows : new int[] {0, 1, 15, 16}) {
            Run x = linksAndFlows(1, flows);
            for (int f : new int[] {MIN, -1, flows, MAX}) x.refuses(UNKNOWN, ofFlow(f, 0), ofFlow(f, 5), ofFlow(f, -1), ofFlow(f, 6));
            if (flows == 0) continue;
            x.refuses(OUTSIDE, ofFlow(0, MIN), ofFlow(0, -1), ofFlow(flows - 1, 6), ofFlow(flows - 1, MAX));
            x.flowIs(flows - 1, 1, (flows - 1) % 8, 0, 0, 0, 0);
        }
        for (int what = 0; what <= 5; what++) ALL_BUT_WAITING.onlyTells(new int[] {10, 0, 3, 1, 2, 0}[what], ofFlow(0, what));
    }

    private static void promise17EachWhat() {
        ALL_BUT_WAITING.flowIs(0, 10, 0, 3, 1, 2, 0);
        ALL_BUT_WAITING.flowIs(1, 20, 6, 3, 0, 0, 1);
        WAITING.flowIs(0, 10, 0, 2, 0, 0, 0);
        WAITING.and(tick(7)).flowIs(0, 10, 0, 2, 2, 0, 0);
        run(flow(0), pin(0, 0)).flowIs(0, 0, 0, 0, 0, 0, 1);
        Run most = run(link(8, 1), flow(1)).times(8, send(0, 50)).and(tick(49), fail(0));
        most.flowIs(0, 1, 0, 400, 384, 16, 0);
    }

    /** LETTER i that came OUT, in that order; NONE for every other number. */
    private static void promise18Out() {
        ALL_BUT_WAITING.onlyTells(0, out(0));
        ALL_BUT_WAITING.onlyTells(NONE, out(MIN), out(-1), out(1), out(6), out(399), out(400), out(MAX));
        WAITING.onlyTells(NONE, out(-1), out(0), out(1));
        Run all = WAITING.and(tick(7));
        all.answers(0, out(0));
        all.answers(1, out(1));
        all.onlyTells(NONE, out(-1), out(2));
        run().onlyTells(NONE, out(MIN), out(-1), out(0), out(MAX));
        Run lost = linksAndFlows(1, 1).and(send(0, 1), fail(0));
        lost.onlyTells(NONE, out(0));
        Run most = run(link(8, 1), flow(1)).times(8, send(0, 50)).and(tick(51));
        most.answers(0, out(0));
        most.answers(399, out(399));
        most.answers(NONE, out(400), out(-1), out(MAX));
    }

    private static void promise19Ordered() {
        for (int flows : new int[] {0, 1, 16}) {
            Run x = linksAndFlows(1, flows);
            x.refuses(UNKNOWN, ordered(MIN), ordered(-1), ordered(flows), ordered(MAX));
            if (flows > 0) x.onlyTells(1, ordered(0), ordered(flows - 1));
        }
        ALL_BUT_WAITING.onlyTells(1, ordered(0), ordered(1));
        ALL_BUT_WAITING.refuses(UNKNOWN, ordered(2));
        ALL_BUT_WAITING.and(tick(500)).answers(1, ordered(0), ordered(1));
    }

    private static void promise20What() {
        for (Run x : new Run[] {run(), ALL_BUT_WAITING, WAITING}) x.refuses(OUTSIDE, told(MIN), told(NONE), told(-1), told(11), told(MAX));
        for (int what = 0; what <= 10; what++) ALL_BUT_WAITING.onlyTells(new int[] {12, 3, 2, 6, 1, 1, 1, 0, 1, 2, 0}[what], told(what));
    }

    private static void promise20EachWhat() {
        ALL_BUT_WAITING.toldIs(12, 3, 2, 6, 1, 1, 1, 0, 1, 2, 0);
        WAITING.toldIs(3, 2, 1, 2, 0, 0, 1, 1, 0, 0, 1);
        Run held = run().times(16, flow(100)).times(8, send(15, 50));
        held.toldIs(0, 0, 16, 400, 400, 0, 0, 0, 0, 0, 0);
        Run most = held.and(numbers(true)).times(4, link(8, 30));
        most.toldIs(0, 4, 16, 400, 0, 400, 0, 0, 0, 0, 0);
        most.and(tick(30)).toldIs(30, 4, 16, 400, 0, 160, 240, 0, 0, 0, 0);
        most.and(tick(80)).toldIs(80, 4, 16, 400, 0, 0, 0, 0, 400, 0, 0);
        most.and(fail(0)).toldIs(0, 4, 16, 400, 0, 0, 0, 0, 0, 400, 0);
    }
}

/** Every refusal that a promise names, in a busy state: its answer, and that it changes nothing. */
public final class RefusalsTest extends Calls {
    /** Link 3 is down; bucket 0 holds after it failed, bucket 1 is to move holding, bucket 2 at a gap. */
    static final Run BUSY = run(link(1, 30), link(2, 2), link(3, 3), link(4, 30),
        flow(1), flow(11), flow(21), flow(31), flow(41), flow(51), pin(5, 7), least(1000),
        send(0, 1), tick(1), move(0, 3, AT_A_GAP), fail(3), send(0, 1), send(1, 2), tick(1),
        move(1, 2, HOLDING), send(1, 1), send(2, 1), move(2, 1, AT_A_GAP), tick(1));

    public static void main(String[] args) {
        busyIsBusy();
        linksAndFlows();
        lettersAndMoves();
        whatIsTold();
        full();
        Check.end();
    }

    private static void busyIsBusy() {
        BUSY.bucketIs(0, 1, NONE, 1, 1, 1, 1);
        BUSY.bucketIs(1, 0, 2, 1, 1, 11, 0);
        BUSY.bucketIs(2, 0, 1, 0, 0, 21, 0);
        BUSY.answers(0, about(3, 2));
    }

    private static void linksAndFlows() {
        BUSY.refuses(UNKNOWN, rate(6, 1), pin(6, 1));
        BUSY.refuses(OUTSIDE, link(0, 1), link(1, 31), flow(-1), flow(101), rate(0, 101), pin(0, 8), hash(8, 0), hash(0, -1));
        BUSY.refuses(STATE, pin(1, 3), hash(2, 2), numbers(true), numbers(false));
        BUSY.refuses(FULL, link(1, 1));
    }

    private static void lettersAndMoves() {
        BUSY.refuses(UNKNOWN, send(6, 1), move(8, 1, 0), move(7, 4, 0), drop(8), drop(-1), fail(4), back(4));
        BUSY.refuses(OUTSIDE, send(0, 0), send(0, 51), send(0, MAX), tick(-1), tick(501), move(7, 1, 3));
        BUSY.refuses(STATE, move(0, 2, 0), move(1, 0, 0), move(2, 0, 1), move(2, 3, 2), drop(0), drop(7), fail(3), back(0));
        BUSY.refuses(NO, move(7, 3, 0), move(7, 0, 2), move(7, 1, 2), move(7, 2, 2));
        for (int l = 0; l < 3; l++) {
            if (BUSY.answer(bucket(7, 0)) == l) BUSY.refuses(NO, move(7, l, 0), move(7, l, 1));
        }
        BUSY.onlyTells(3, tick(0));
    }

    private static void whatIsTold() {
        BUSY.refuses(UNKNOWN, letter(MAX, 0), about(4, 0), bucket(8, 0), ofFlow(6, 0), ordered(6), plan(8));
        BUSY.refuses(OUTSIDE, letter(0, MIN), about(0, MAX), bucket(0, 6), ofFlow(0, 6), told(11), even(1001), least(-1));
        BUSY.onlyTells(NONE, out(MAX), least(0));
    }

    /** The busy state has room left for flows and letters, so these stand apart. */
    private static void full() {
        Run full = linksAndFlows(1, 16).times(8, send(3, 50)).and(least(1000));
        full.refuses(FULL, flow(1), send(0, 1));
    }
}

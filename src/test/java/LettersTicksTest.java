/** Promises 8 to 13: send, tick, move, drop, fail, back. */
public final class LettersTicksTest {
    private static final int NONE = -6, UNKNOWN = -1, OUTSIDE = -2, STATE = -3, FULL = -4, NO = -5;
    private static final int HELD = 0, QUEUED = 1, ON_ITS_WAY = 2, WAITS = 3, OUT = 4, LOST = 5;

    public static void main(String[] args) {
        promise8Send();
        promise8SendFull();
        promise9Tick();
        promise9ArrivingByLinks();
        promise9NumbersPutInOrder();
        promise9LostLetsTheNextOut();
        promise10MoveAtAGap();
        promise10MoveAtOnce();
        promise10MoveHolding();
        promise10TheGapIsStrict();
        promise10ThereWhenTheLastIsLost();
        promise10Refusals();
        promise10HeldOfSeveralBuckets();
        promise11Drop();
        promise12Fail();
        promise12FailLosesOnlyWhatIsUnderway();
        promise12FailCancelsMovesThere();
        promise12FailWhileHolding();
        promise12FailedLast();
        promise12HoldsForQueuedOnes();
        promise13Back();
        Check.end();
    }

    private static void promise8Send() {
        BundleLinks x = new BundleLinks();
        Check.due("8 no flow", x.send(0, 1), UNKNOWN);
        Check.due("8 unknown comes before outside", x.send(0, 0), UNKNOWN);
        x.flow(1);
        x.flow(1);
        x.flow(1);
        x.pin(2, 0);
        Check.due("8 flow -1", x.send(-1, 1), UNKNOWN);
        Check.due("8 none", x.send(0, 0), OUTSIDE);
        Check.due("8 too many", x.send(0, 51), OUTSIDE);
        Check.due("8 below", x.send(0, -1), OUTSIDE);
        Check.due("8 on no link", x.send(0, 1), 1);
        Check.due("8 held", x.letter(0, 3), HELD);
        x.link(2, 3);
        Check.due("8 the other bucket", x.send(1, 1), 2);
        Check.due("8 queued", x.letter(1, 3), QUEUED);
        Check.due("8 the bucket's other flow", x.send(2, 2), 4);
        Check.due("8 first again", x.send(0, 1), 5);
        Check.dueAll("8 letter 3", Check.letter(x, 3), 2, 1, 0, QUEUED, 0, 0, NONE, NONE, NONE);
        Check.dueAll("8 letter 4", Check.letter(x, 4), 0, 1, 0, QUEUED, 0, 0, NONE, NONE, NONE);
        x.tick(3);
        Check.due("8 behind all others: first", x.letter(0, 6), 1);
        Check.due("8 behind all others: second", x.letter(1, 6), 1);
        Check.due("8 behind all others: third", x.letter(2, 6), 2);
        Check.due("8 behind all others: last", x.letter(4, 6), 3);
    }

    private static void promise8SendFull() {
        BundleLinks x = new BundleLinks();
        x.flow(1);
        for (int n = 50; n <= 350; n += 50) Check.due("8 so far", x.send(0, n == 350 ? 49 : 50), n == 350 ? 349 : n);
        Check.due("8 399", x.send(0, 50), 399);
        Check.due("8 one too many", x.send(0, 2), FULL);
        Check.due("8 outside comes before full", x.send(0, 51), OUTSIDE);
        Check.due("8 nothing sent", x.told(3), 399);
        Check.due("8 400", x.send(0, 1), 400);
        Check.due("8 full", x.send(0, 1), FULL);
        x.link(8, 30);
        x.tick(50);
        Check.due("8 all have left", x.about(0, 7), 400);
        x.tick(30);
        Check.due("8 all are out", x.told(8), 400);
        Check.due("8 the last", x.out(399), 399);
        Check.due("8 in order", x.ordered(0), 1);
        Check.due("8 full though all are out", x.send(0, 1), FULL);
    }

    private static void promise9Tick() {
        BundleLinks x = new BundleLinks();
        Check.due("9 none", x.tick(0), 0);
        Check.due("9 500", x.tick(500), 500);
        Check.due("9 below", x.tick(-1), OUTSIDE);
        Check.due("9 above", x.tick(501), OUTSIDE);
        Check.due("9 not changed", x.told(0), 500);
        x.link(2, 3);
        x.flow(1);
        x.send(0, 5);
        Check.due("9 no tick", x.tick(0), 500);
        Check.due("9 none left", x.about(0, 3), 5);
        Check.due("9 one", x.tick(1), 501);
        Check.due("9 speed of them left", x.about(0, 3), 3);
        Check.due("9 on their way", x.about(0, 4), 2);
        Check.dueAll("9 letter 0", Check.letter(x, 0), 0, 0, 0, ON_ITS_WAY, 0, 500, 501, 504, NONE);
        x.tick(2);
        Check.due("9 the last left alone", x.letter(4, 6), 503);
        Check.due("9 none out before delay", x.told(8), 0);
        x.tick(1);
        Check.due("9 two are out", x.told(8), 2);
        Check.dueAll("9 letter 1", Check.letter(x, 1), 0, 1, 0, OUT, 0, 500, 501, 504, 504);
        x.tick(10);
        Check.dueAll("9 letter 4", Check.letter(x, 4), 0, 4, 0, OUT, 0, 500, 503, 506, 506);
        Check.due("9 left ever", x.about(0, 7), 5);
    }

    private static void promise9ArrivingByLinks() {
        BundleLinks x = new BundleLinks();
        x.link(2, 1);
        x.link(2, 2);
        x.flow(1);
        x.flow(1);
        Check.due("9 bucket 1", x.move(1, 1, 0), 1);
        x.send(1, 2);
        x.tick(1);
        x.send(0, 2);
        x.tick(2);
        Check.due("9 all four arrived at 3", x.letter(3, 8) * 10 + x.letter(0, 8), 33);
        Check.due("9 link 0 first", x.out(0), 2);
        Check.due("9 as they left", x.out(1), 3);
        Check.due("9 then link 1", x.out(2), 0);
        Check.due("9 last", x.out(3), 1);
    }

    private static void promise9NumbersPutInOrder() {
        BundleLinks x = new BundleLinks();
        x.numbers(true);
        x.link(1, 6);
        x.link(8, 1);
        x.flow(1);
        x.flow(1);
        x.send(0, 2);
        x.move(0, 1, 2);
        x.move(1, 1, 2);
        x.send(0, 2);
        x.send(1, 1);
        x.tick(2);
        Check.due("9 two wait", x.told(7), 2);
        Check.dueAll("9 one that waits", Check.letter(x, 2), 0, 2, 0, WAITS, 1, 0, 1, 2, NONE);
        Check.due("9 the other flow is out", x.letter(4, 8), 2);
        x.tick(5);
        Check.due("9 first is out", x.letter(0, 8), 7);
        Check.due("9 still two wait", x.told(7), 2);
        x.tick(1);
        Check.due("9 none waits", x.told(7), 0);
        Check.dueAll("9 the last is out", Check.letter(x, 3), 0, 3, 0, OUT, 1, 0, 1, 2, 8);
        Check.due("9 order 0", x.out(0), 4);
        Check.due("9 order 1", x.out(1), 0);
        Check.due("9 order 2", x.out(2), 1);
        Check.due("9 order 3", x.out(3), 2);
        Check.due("9 order 4", x.out(4), 3);
        Check.due("9 ordered", x.ordered(0), 1);
    }

    private static void promise9LostLetsTheNextOut() {
        BundleLinks x = new BundleLinks();
        x.numbers(true);
        x.link(1, 20);
        x.link(1, 1);
        x.flow(1);
        x.send(0, 1);
        x.move(0, 1, 2);
        x.send(0, 1);
        x.tick(3);
        Check.due("9 waits for the first", x.letter(1, 3), WAITS);
        Check.due("9 the first is lost", x.fail(0), 1);
        Check.due("9 waits until the tick", x.letter(1, 3), WAITS);
        x.tick(1);
        Check.due("9 then it is out", x.letter(1, 8), 4);
        Check.due("9 arrived before", x.letter(1, 7), 2);
    }

    private static void promise10MoveAtAGap() {
        BundleLinks x = new BundleLinks();
        x.link(1, 9);
        x.link(1, 2);
        x.flow(5);
        Check.due("10 nothing underway", x.move(0, 1, 0), 1);
        Check.dueAll("10 there", Check.bucket(x, 0), 1, NONE, 0, 0, 5, 1);
        Check.due("10 back again", x.move(0, 0, 1), 1);
        Check.dueAll("10 there again", Check.bucket(x, 0), 0, NONE, 0, 0, 5, 2);
        x.send(0, 2);
        Check.due("10 one is queued", x.move(0, 1, 0), 0);
        Check.dueAll("10 to move", Check.bucket(x, 0), 0, 1, 0, 0, 5, 2);
        x.send(0, 1);
        Check.due("10 goes on as it did", x.letter(2, 4), 0);
        x.tick(3);
        Check.due("10 the last left at 3", x.letter(2, 6), 3);
        x.tick(6);
        Check.due("10 time 9: 12 is not before 12", x.bucket(0, 0), 0);
        x.tick(1);
        Check.dueAll("10 time 10: 12 is before 13", Check.bucket(x, 0), 1, NONE, 0, 0, 5, 3);
        Check.due("10 load there", x.about(1, 6), 5);
    }

    private static void promise10MoveAtOnce() {
        BundleLinks x = new BundleLinks();
        x.link(1, 9);
        x.link(1, 2);
        x.flow(5);
        Check.due("10 without numbers", x.move(0, 1, 2), NO);
        x.numbers(true);
        x.send(0, 2);
        Check.due("10 at once", x.move(0, 1, 2), 1);
        Check.dueAll("10 it is there", Check.bucket(x, 0), 1, NONE, 0, 0, 5, 1);
        Check.due("10 what is queued stays", x.about(0, 3), 2);
        x.send(0, 1);
        Check.due("10 the next goes there", x.letter(2, 4), 1);
    }

    private static void promise10MoveHolding() {
        BundleLinks x = new BundleLinks();
        x.link(2, 9);
        x.link(1, 2);
        x.flow(5);
        x.flow(5);
        x.pin(1, 0);
        x.send(0, 1);
        Check.due("10 holding", x.move(0, 1, 1), 0);
        x.send(1, 1);
        x.send(0, 1);
        Check.dueAll("10 holds", Check.bucket(x, 0), 0, 1, 1, 2, 10, 0);
        Check.dueAll("10 held", Check.letter(x, 1), 1, 0, 0, HELD, NONE, 0, NONE, NONE, NONE);
        x.tick(7);
        Check.due("10 time 7: 10 is not before 10", x.bucket(0, 2), 1);
        x.tick(1);
        Check.dueAll("10 time 8: there", Check.bucket(x, 0), 1, NONE, 0, 0, 10, 1);
        Check.due("10 queued there", x.about(1, 3), 2);
        x.tick(3);
        Check.due("10 in order, first", x.letter(1, 6), 9);
        Check.due("10 in order, second", x.letter(2, 6), 10);
        Check.due("10 out in order", x.ordered(0), 1);
        Check.due("10 first of all", x.out(0), 0);
    }

    /** Arriving at the same time is not before: by links the new one's letter could come out first. */
    private static void promise10TheGapIsStrict() {
        BundleLinks x = new BundleLinks();
        x.link(1, 4);
        x.link(1, 5);
        x.flow(5);
        Check.due("10 to the slower", x.move(0, 1, 0), 1);
        x.send(0, 1);
        x.tick(1);
        Check.due("10 arrives at 6, soonest is 6", x.move(0, 0, 0), 0);
        x.drop(0);
        x.tick(1);
        Check.due("10 arrives at 6, soonest is 7", x.move(0, 0, 0), 1);
        x.send(0, 1);
        x.tick(5);
        Check.due("10 in order", x.ordered(0), 1);
        Check.due("10 apart", x.letter(1, 8) - x.letter(0, 8), 1);
    }

    /** No letter is underway any more, but the bucket is asked only at a tick's end. */
    private static void promise10ThereWhenTheLastIsLost() {
        for (int how = 0; how < 2; how++) {
            BundleLinks x = new BundleLinks();
            x.link(1, 20);
            x.link(1, 20);
            x.link(1, 1);
            x.flow(5);
            x.send(0, 1);
            x.tick(1);
            Check.due("10 behind the first", x.move(0, 1, 0), 1);
            Check.due("10 not before the first", x.move(0, 2, how), 0);
            Check.due("10 the first is lost", x.fail(0), 1);
            Check.due("10 not there until the tick", x.bucket(0, 0), 1);
            x.tick(500);
            Check.dueAll("10 there", Check.bucket(x, 0), 2, NONE, 0, 0, 5, 2);
        }
    }

    private static void promise10Refusals() {
        BundleLinks x = new BundleLinks();
        Check.due("10 no link", x.move(0, 0, 0), UNKNOWN);
        x.link(1, 9);
        x.link(1, 2);
        x.link(1, 2);
        x.flow(5);
        Check.due("10 bucket 8", x.move(8, 1, 0), UNKNOWN);
        Check.due("10 bucket -1", x.move(-1, 1, 0), UNKNOWN);
        Check.due("10 link 3", x.move(0, 3, 0), UNKNOWN);
        Check.due("10 link -1", x.move(0, -1, 0), UNKNOWN);
        Check.due("10 unknown comes before outside", x.move(0, 3, 3), UNKNOWN);
        Check.due("10 how 3", x.move(0, 1, 3), OUTSIDE);
        Check.due("10 how -1", x.move(0, 1, -1), OUTSIDE);
        Check.due("10 outside comes before no", x.move(0, 0, 3), OUTSIDE);
        Check.due("10 it is on it", x.move(0, 0, 0), NO);
        x.fail(2);
        Check.due("10 not up", x.move(0, 2, 0), NO);
        x.send(0, 1);
        Check.due("10 to move", x.move(0, 1, 0), 0);
        Check.due("10 is to move already", x.move(0, 1, 0), STATE);
        Check.due("10 state comes before no", x.move(0, 0, 2), STATE);
        Check.due("10 outside comes before state", x.move(0, 1, 3), OUTSIDE);
        x.drop(0);
        x.move(0, 1, 1);
        Check.due("10 holds", x.move(0, 1, 1), STATE);
        x.drop(0);
        x.tick(1);
        x.back(2);
        x.fail(2);
        x.fail(1);
        x.fail(0);
        Check.due("10 on no link", x.move(0, 0, 0), STATE);
        Check.due("10 never moved", x.bucket(0, 5), 0);
    }

    private static void promise10HeldOfSeveralBuckets() {
        BundleLinks x = new BundleLinks();
        x.link(8, 10);
        x.link(1, 1);
        x.flow(5);
        x.flow(5);
        x.send(0, 1);
        x.send(1, 1);
        x.move(1, 1, 1);
        x.move(0, 1, 1);
        x.send(1, 1);
        x.send(0, 1);
        x.tick(9);
        Check.due("10 neither yet", x.about(1, 5), 0);
        x.tick(1);
        Check.due("10 both at time 10", x.about(1, 5), 2);
        x.tick(2);
        Check.due("10 by buckets' numbers, 0", x.letter(3, 6), 11);
        Check.due("10 by buckets' numbers, 1", x.letter(2, 6), 12);
    }

    private static void promise11Drop() {
        BundleLinks x = new BundleLinks();
        x.link(1, 9);
        x.link(1, 2);
        x.flow(5);
        Check.due("11 bucket 8", x.drop(8), UNKNOWN);
        Check.due("11 bucket -1", x.drop(-1), UNKNOWN);
        Check.due("11 not to move", x.drop(0), STATE);
        x.send(0, 2);
        x.move(0, 1, 1);
        x.send(0, 3);
        Check.due("11 three were held", x.drop(0), 3);
        Check.dueAll("11 as before", Check.bucket(x, 0), 0, NONE, 0, 0, 5, 0);
        Check.due("11 queued at its link", x.about(0, 3), 5);
        Check.due("11 only once", x.drop(0), STATE);
        Check.due("11 at a gap", x.move(0, 1, 0), 0);
        x.send(0, 1);
        Check.due("11 none were held", x.drop(0), 0);
        x.tick(50);
        Check.due("11 it stays", x.bucket(0, 0), 0);
        Check.due("11 in order", x.ordered(0), 1);
        Check.due("11 all are out", x.told(8), 6);
        Check.due("11 by its link", x.about(0, 7), 6);
    }

    private static void promise12Fail() {
        BundleLinks x = new BundleLinks();
        Check.due("12 no link", x.fail(0), UNKNOWN);
        x.link(1, 9);
        x.link(1, 2);
        x.link(1, 2);
        x.flow(5);
        Check.due("12 link -1", x.fail(-1), UNKNOWN);
        Check.due("12 link 3", x.fail(3), UNKNOWN);
        x.move(3, 1, 0);
        x.send(0, 3);
        x.tick(1);
        Check.due("12 three are lost", x.fail(0), 3);
        Check.due("12 not up", x.fail(0), STATE);
        Check.dueAll("12 about it", Check.about(x, 0), 1, 9, 0, 0, 0, 0, 0, 1);
        Check.dueAll("12 lost on its way", Check.letter(x, 0), 0, 0, 0, LOST, 0, 0, 1, 10, 1);
        Check.dueAll("12 lost in the queue", Check.letter(x, 2), 0, 2, 0, LOST, 0, 0, NONE, NONE, 1);
        Check.dueAll("12 of the flow", Check.ofFlow(x, 0), 5, 0, 3, 0, 3, 0);
        // Link 1 had one bucket and link 2 none: 0 to 2, 1 to 1 (of several the least), 2 to 2, 4 to 1 and so on.
        int[] due = {2, 1, 2, 1, 1, 2, 1, 2};
        for (int b = 0; b < 8; b++) {
            Check.dueAll("12 bucket " + b, Check.bucket(x, b), due[b], NONE, 0, 0, b == 0 ? 5 : 0, b == 3 ? 1 : 0);
        }
    }

    private static void promise12FailLosesOnlyWhatIsUnderway() {
        BundleLinks x = new BundleLinks();
        x.link(1, 2);
        x.flow(5);
        x.send(0, 5);
        x.tick(4);
        Check.due("12 two are out", x.told(8), 2);
        Check.due("12 two on their way and one queued", x.fail(0), 3);
        Check.due("12 two stay out", x.told(8), 2);
        Check.due("12 three are lost", x.told(9), 3);
        x.back(0);
        x.send(0, 1);
        Check.due("12 one more", x.fail(0), 1);
        Check.due("12 four are lost", x.ofFlow(0, 4), 4);
        Check.due("12 four left ever", x.about(0, 7), 4);
    }

    private static void promise12FailCancelsMovesThere() {
        BundleLinks x = new BundleLinks();
        x.link(2, 9);
        x.link(1, 2);
        x.flow(5);
        x.flow(5);
        x.send(0, 1);
        x.send(1, 1);
        x.move(0, 1, 1);
        x.move(1, 1, 0);
        x.send(0, 2);
        x.send(1, 1);
        Check.due("12 nothing was there", x.fail(1), 0);
        Check.dueAll("12 not to move, 0", Check.bucket(x, 0), 0, NONE, 0, 0, 5, 0);
        Check.dueAll("12 not to move, 1", Check.bucket(x, 1), 0, NONE, 0, 0, 5, 0);
        Check.due("12 held is queued behind", x.about(0, 3), 5);
        x.tick(3);
        Check.due("12 the other's came before", x.letter(4, 6), 2);
        Check.due("12 then the held", x.letter(2, 6), 2);
        Check.due("12 then the last", x.letter(3, 6), 3);
        x.tick(30);
        Check.due("12 still there", x.bucket(0, 0), 0);
    }

    private static void promise12FailWhileHolding() {
        BundleLinks x = new BundleLinks();
        x.link(1, 20);
        x.link(1, 20);
        x.link(8, 1);
        x.flow(5);
        x.send(0, 1);
        x.tick(1);
        Check.due("12 moved behind the first", x.move(0, 1, 0), 1);
        Check.due("12 to move on, holding", x.move(0, 2, 1), 0);
        x.send(0, 2);
        Check.due("12 none lost", x.fail(1), 0);
        Check.dueAll("12 holds on link 2", Check.bucket(x, 0), 2, NONE, 1, 2, 5, 1);
        Check.due("12 holds, no move", x.drop(0), STATE);
        Check.due("12 holds, no other move", x.move(0, 0, 0), STATE);
        x.tick(18);
        Check.due("12 time 19: 21 is not before 21", x.bucket(0, 2), 1);
        x.tick(1);
        Check.dueAll("12 time 20: holds no more", Check.bucket(x, 0), 2, NONE, 0, 0, 5, 1);
        Check.due("12 queued there", x.about(2, 3), 2);
        x.tick(5);
        Check.due("12 in order", x.ordered(0), 1);
        Check.due("12 out last", x.out(2), 2);
    }

    private static void promise12FailedLast() {
        BundleLinks x = new BundleLinks();
        x.link(1, 20);
        x.link(1, 2);
        x.flow(5);
        x.send(0, 1);
        x.move(0, 1, 1);
        x.send(0, 2);
        x.fail(1);
        x.move(0, 1, 0);
        x.back(1);
        x.move(0, 1, 1);
        x.send(0, 1);
        x.fail(1);
        Check.due("12 all were queued", x.fail(0), 4);
        Check.dueAll("12 on none", Check.bucket(x, 0), NONE, NONE, 0, 0, 5, 0);
        x.send(0, 1);
        Check.dueAll("12 holds nothing yet has one held", Check.bucket(x, 0), NONE, NONE, 0, 1, 5, 0);
        Check.due("12 held", x.letter(4, 3), HELD);
        x.tick(10);
        Check.due("12 still held", x.letter(4, 3), HELD);
    }

    private static void promise12HoldsForQueuedOnes() {
        BundleLinks x = new BundleLinks();
        x.numbers(true);
        x.link(1, 1);
        x.link(1, 1);
        x.flow(5);
        x.send(0, 2);
        x.move(0, 1, 2);
        Check.due("12 none on link 1", x.fail(1), 0);
        Check.dueAll("12 queued ones are ahead", Check.bucket(x, 0), 0, NONE, 1, 0, 5, 1);
        x.send(0, 1);
        x.tick(1);
        Check.due("12 one is queued yet", x.bucket(0, 3), 1);
        x.tick(1);
        Check.due("12 none is queued", x.bucket(0, 2), 0);
        Check.due("12 held is queued", x.letter(2, 3), QUEUED);
    }

    private static void promise13Back() {
        BundleLinks x = new BundleLinks();
        Check.due("13 no link", x.back(0), UNKNOWN);
        x.link(1, 20);
        x.link(1, 2);
        x.flow(5);
        x.flow(5);
        Check.due("13 link -1", x.back(-1), UNKNOWN);
        Check.due("13 link 2", x.back(2), UNKNOWN);
        Check.due("13 it is up", x.back(0), STATE);
        x.fail(1);
        Check.due("13 takes none", x.back(1), 0);
        Check.due("13 up", x.about(1, 2), 1);
        x.fail(0);
        Check.due("13 all on 1", x.about(1, 5), 8);
        x.fail(1);
        x.send(1, 1);
        x.send(0, 2);
        x.send(1, 1);
        Check.due("13 takes all", x.back(1), 8);
        Check.due("13 on it", x.bucket(7, 0), 1);
        Check.due("13 queued", x.about(1, 3), 4);
        Check.due("13 none held", x.told(4), 0);
        Check.due("13 the other takes none", x.back(0), 0);
        x.tick(4);
        int[] due = {3, 1, 2, 4};
        for (int i = 0; i < 4; i++) Check.due("13 by buckets' numbers", x.letter(i, 6), due[i]);
    }
}

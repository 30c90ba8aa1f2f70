/** The calls and the document's numbers by name, for the tests that write runs down as data. */
abstract class Calls {
    static final int NONE = -6, UNKNOWN = -1, OUTSIDE = -2, STATE = -3, FULL = -4, NO = -5;
    static final int HELD = 0, QUEUED = 1, ON_ITS_WAY = 2, WAITS = 3, OUT = 4, LOST = 5;
    static final int AT_A_GAP = 0, HOLDING = 1, AT_ONCE = 2;
    static final int MIN = Integer.MIN_VALUE, MAX = Integer.MAX_VALUE;

    static Call link(int speed, int delay) {
        return new Call("link", speed, delay);
    }

    static Call flow(int rate) {
        return new Call("flow", rate);
    }

    static Call rate(int flow, int r) {
        return new Call("rate", flow, r);
    }

    static Call pin(int flow, int bucket) {
        return new Call("pin", flow, bucket);
    }

    static Call hash(int a, int c) {
        return new Call("hash", a, c);
    }

    static Call numbers(boolean on) {
        return new Call("numbers", on ? 1 : 0);
    }

    static Call send(int flow, int n) {
        return new Call("send", flow, n);
    }

    static Call tick(int n) {
        return new Call("tick", n);
    }

    static Call move(int bucket, int link, int how) {
        return new Call("move", bucket, link, how);
    }

    static Call drop(int bucket) {
        return new Call("drop", bucket);
    }

    static Call fail(int link) {
        return new Call("fail", link);
    }

    static Call back(int link) {
        return new Call("back", link);
    }

    static Call letter(int i, int what) {
        return new Call("letter", i, what);
    }

    static Call about(int link, int what) {
        return new Call("about", link, what);
    }

    static Call bucket(int b, int what) {
        return new Call("bucket", b, what);
    }

    static Call ofFlow(int f, int what) {
        return new Call("ofFlow", f, what);
    }

    static Call out(int i) {
        return new Call("out", i);
    }

    static Call ordered(int flow) {
        return new Call("ordered", flow);
    }

    static Call told(int what) {
        return new Call("told", what);
    }

    static Call even(int k) {
        return new Call("even", k);
    }

    static Call least(int k) {
        return new Call("least", k);
    }

    static Call plan(int b) {
        return new Call("plan", b);
    }

    static Run run(Call... calls) {
        return new Run(calls);
    }

    /** So many links, each of speed 1 and delay 1, and flows of rate 1. */
    static Run linksAndFlows(int links, int flows) {
        Run made = run();
        for (int l = 0; l < links; l++) made = made.and(link(1, 1));
        for (int f = 0; f < flows; f++) made = made.and(flow(1));
        return made;
    }
}

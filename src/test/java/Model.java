import java.util.ArrayList;
import java.util.List;

/**
 * The document once more, written as plainly as can be and apart from the program: letters as
 * objects that are looked through for every question, plans all tried. ModelTest sets the two
 * side by side.
 */
final class Model {
    static final int NONE = -6, UNKNOWN = -1, OUTSIDE = -2, STATE = -3, FULL = -4, NO = -5;

    static final class Link {
        int speed, delay, left;
        boolean up = true;
    }

    static final class Bucket {
        int on = NONE, to = NONE, moved;
        boolean holds;
    }

    static final class Flow {
        int rate, pinned = -1;
    }

    static final class Letter {
        int flow, place, bucket, state, link = NONE, sent, left = NONE, arrives = NONE, ended = NONE, turn;
    }

    final List<Link> links = new ArrayList<>();
    final Bucket[] buckets = new Bucket[8];
    final List<Flow> flows = new ArrayList<>();
    final List<Letter> letters = new ArrayList<>();
    final List<Integer> outs = new ArrayList<>();
    int a = 1, c = 0, time = 0, turns = 0;
    boolean numbers = false;
    int[] plan = null;

    Model() {
        for (int b = 0; b < 8; b++) buckets[b] = new Bucket();
    }

    private boolean noLink(int l) {
        return l < 0 || l >= links.size();
    }

    private boolean noFlow(int f) {
        return f < 0 || f >= flows.size();
    }

    private static boolean noBucket(int b) {
        return b < 0 || b > 7;
    }

    private static boolean outside(int n, int from, int to) {
        return n < from || n > to;
    }

    int link(int speed, int delay) {
        if (outside(speed, 1, 8) || outside(delay, 1, 30)) return OUTSIDE;
        if (links.size() == 4) return FULL;
        Link made = new Link();
        made.speed = speed;
        made.delay = delay;
        links.add(made);
        take(links.size() - 1);
        return links.size() - 1;
    }

    int flow(int rate) {
        if (outside(rate, 0, 100)) return OUTSIDE;
        if (flows.size() == 16) return FULL;
        Flow made = new Flow();
        made.rate = rate;
        flows.add(made);
        return flows.size() - 1;
    }

    int rate(int f, int r) {
        if (noFlow(f)) return UNKNOWN;
        if (outside(r, 0, 100)) return OUTSIDE;
        int was = flows.get(f).rate;
        flows.get(f).rate = r;
        return was;
    }

    int pin(int f, int b) {
        if (noFlow(f)) return UNKNOWN;
        if (outside(b, -1, 7)) return OUTSIDE;
        for (Letter letter : letters) if (letter.flow == f && letter.state < 4) return STATE;
        int was = bucketOf(f);
        flows.get(f).pinned = b;
        return was;
    }

    private boolean busy() {
        for (Letter letter : letters) if (letter.state < 4) return true;
        return false;
    }

    int hash(int newA, int newC) {
        if (outside(newA, 0, 7) || outside(newC, 0, 7)) return OUTSIDE;
        if (busy()) return STATE;
        a = newA;
        c = newC;
        return 1;
    }

    int numbers(boolean on) {
        if (busy()) return STATE;
        int was = numbers ? 1 : 0;
        numbers = on;
        return was;
    }

    private int bucketOf(int f) {
        return flows.get(f).pinned >= 0 ? flows.get(f).pinned : (f * a + c) % 8;
    }

    private int count(int flow, int bucket, int link, int state) {
        int n = 0;
        for (Letter x : letters) {
            if ((flow < 0 || x.flow == flow) && (bucket < 0 || x.bucket == bucket)
                && (link < 0 || x.link == link) && (state < 0 || x.state == state)) n++;
        }
        return n;
    }

    int send(int f, int n) {
        if (noFlow(f)) return UNKNOWN;
        if (outside(n, 1, 50)) return OUTSIDE;
        if (letters.size() + n > 400) return FULL;
        for (int i = 0; i < n; i++) {
            Letter x = new Letter();
            x.flow = f;
            x.place = count(f, -1, -1, -1);
            x.bucket = bucketOf(f);
            x.sent = time;
            Bucket b = buckets[x.bucket];
            boolean held = b.holds || b.on == NONE || count(-1, x.bucket, -1, 0) > 0;
            letters.add(x);
            if (!held) queue(x, b.on);
        }
        return letters.size();
    }

    private void queue(Letter x, int l) {
        x.state = 1;
        x.link = l;
        x.turn = turns++;
    }

    private Letter first(int l, int state) {
        Letter best = null;
        for (Letter x : letters) {
            if (x.link == l && x.state == state && (best == null || x.turn < best.turn)) best = x;
        }
        return best;
    }

    int tick(int n) {
        if (outside(n, 0, 500)) return OUTSIDE;
        for (int i = 0; i < n; i++) tick();
        return time;
    }

    private void tick() {
        time++;
        for (int l = 0; l < links.size(); l++) {
            Link link = links.get(l);
            for (int i = 0; i < link.speed && link.up; i++) {
                Letter x = first(l, 1);
                if (x == null) break;
                x.state = 2;
                x.left = time;
                x.arrives = time + link.delay;
                link.left++;
            }
        }
        for (int l = 0; l < links.size(); l++) {
            for (Letter x = first(l, 2); x != null && x.arrives == time; x = first(l, 2)) {
                if (numbers) x.state = 3;
                else out(x);
            }
        }
        if (numbers) {
            for (Letter x : letters) if (x.state == 3 && isNext(x)) out(x);
        }
        for (int b = 0; b < 8; b++) {
            if (buckets[b].to != NONE || buckets[b].holds) ask(b);
        }
    }

    private boolean isNext(Letter x) {
        for (Letter y : letters) {
            if (y.flow == x.flow && y.place < x.place && y.state < 4) return false;
        }
        return true;
    }

    private void out(Letter x) {
        x.state = 4;
        x.ended = time;
        outs.add(letters.indexOf(x));
    }

    private boolean couldCome(int b, int l) {
        for (Letter x : letters) {
            if (x.bucket == b && x.state == 1) return false;
            if (x.bucket == b && x.state == 2 && !(x.arrives < time + 1 + links.get(l).delay)) return false;
        }
        return true;
    }

    private void ask(int b) {
        Bucket bucket = buckets[b];
        if (bucket.to != NONE) {
            if (couldCome(b, bucket.to)) there(b);
        } else if (couldCome(b, bucket.on)) {
            free(b);
        }
    }

    private void there(int b) {
        buckets[b].on = buckets[b].to;
        buckets[b].to = NONE;
        buckets[b].moved++;
        free(b);
    }

    private int free(int b) {
        buckets[b].holds = false;
        int n = 0;
        for (Letter x : letters) {
            if (x.bucket == b && x.state == 0) {
                if (buckets[b].on != NONE) queue(x, buckets[b].on);
                n++;
            }
        }
        return n;
    }

    int move(int b, int l, int how) {
        if (noBucket(b) || noLink(l)) return UNKNOWN;
        if (outside(how, 0, 2)) return OUTSIDE;
        Bucket bucket = buckets[b];
        if (bucket.on == NONE || bucket.to != NONE || bucket.holds) return STATE;
        if (!links.get(l).up || bucket.on == l || (how == 2 && !numbers)) return NO;
        bucket.to = l;
        if (how == 2 || couldCome(b, l)) {
            there(b);
            return 1;
        }
        bucket.holds = how == 1;
        return 0;
    }

    int drop(int b) {
        if (noBucket(b)) return UNKNOWN;
        if (buckets[b].to == NONE) return STATE;
        buckets[b].to = NONE;
        return free(b);
    }

    int fail(int l) {
        if (noLink(l)) return UNKNOWN;
        if (!links.get(l).up) return STATE;
        links.get(l).up = false;
        int lost = 0;
        for (Letter x : letters) {
            if (x.link == l && (x.state == 1 || x.state == 2)) {
                x.state = 5;
                x.ended = time;
                lost++;
            }
        }
        for (int b = 0; b < 8; b++) {
            if (buckets[b].to == l) {
                buckets[b].to = NONE;
                free(b);
            }
        }
        for (int b = 0; b < 8; b++) {
            if (buckets[b].on != l) continue;
            buckets[b].to = NONE;
            buckets[b].on = NONE;
            buckets[b].holds = false;
            int best = NONE;
            for (int m = links.size() - 1; m >= 0; m--) {
                if (links.get(m).up && (best == NONE || on(m) <= on(best))) best = m;
            }
            if (best == NONE) continue;
            buckets[b].on = best;
            buckets[b].holds = true;
            ask(b);
        }
        return lost;
    }

    private int on(int l) {
        int n = 0;
        for (Bucket bucket : buckets) if (bucket.on == l) n++;
        return n;
    }

    int back(int l) {
        if (noLink(l)) return UNKNOWN;
        if (links.get(l).up) return STATE;
        links.get(l).up = true;
        return take(l);
    }

    private int take(int l) {
        int n = 0;
        for (int b = 0; b < 8; b++) {
            if (buckets[b].on == NONE) {
                buckets[b].on = l;
                free(b);
                n++;
            }
        }
        return n;
    }

    int letter(int i, int what) {
        if (i < 0 || i >= letters.size()) return UNKNOWN;
        if (outside(what, 0, 8)) return OUTSIDE;
        Letter x = letters.get(i);
        return new int[] {x.flow, x.place, x.bucket, x.state, x.link, x.sent, x.left, x.arrives, x.ended}[what];
    }

    int about(int l, int what) {
        if (noLink(l)) return UNKNOWN;
        if (outside(what, 0, 7)) return OUTSIDE;
        Link x = links.get(l);
        return new int[] {x.speed, x.delay, x.up ? 1 : 0, count(-1, -1, l, 1), count(-1, -1, l, 2), on(l), load(l), x.left}[what];
    }

    private int load(int l) {
        int sum = 0;
        for (int b = 0; b < 8; b++) if (buckets[b].on == l) sum += rates(b);
        return sum;
    }

    private int rates(int b) {
        int sum = 0;
        for (int f = 0; f < flows.size(); f++) if (bucketOf(f) == b) sum += flows.get(f).rate;
        return sum;
    }

    int bucket(int b, int what) {
        if (noBucket(b)) return UNKNOWN;
        if (outside(what, 0, 5)) return OUTSIDE;
        Bucket x = buckets[b];
        return new int[] {x.on, x.to, x.holds ? 1 : 0, count(-1, b, -1, 0), rates(b), x.moved}[what];
    }

    int ofFlow(int f, int what) {
        if (noFlow(f)) return UNKNOWN;
        if (outside(what, 0, 5)) return OUTSIDE;
        Flow x = flows.get(f);
        return new int[] {x.rate, bucketOf(f), count(f, -1, -1, -1), count(f, -1, -1, 4), count(f, -1, -1, 5), x.pinned >= 0 ? 1 : 0}[what];
    }

    int out(int i) {
        return i < 0 || i >= outs.size() ? NONE : outs.get(i);
    }

    int ordered(int f) {
        if (noFlow(f)) return UNKNOWN;
        int latest = -1;
        for (int i : outs) {
            if (letters.get(i).flow != f) continue;
            if (letters.get(i).place < latest) return 0;
            latest = letters.get(i).place;
        }
        return 1;
    }

    int told(int what) {
        if (outside(what, 0, 10)) return OUTSIDE;
        if (what == 10) return numbers ? 1 : 0;
        if (what >= 4) return count(-1, -1, -1, what - 4);
        return new int[] {time, links.size(), flows.size(), letters.size()}[what];
    }

    private boolean noneUp() {
        for (Link link : links) if (link.up) return false;
        return true;
    }

    private boolean isEven(int[] at, int[] rates, int k) {
        int speeds = 0, all = 0;
        int[] loads = new int[links.size()];
        for (int b = 0; b < 8; b++) if (at[b] != NONE) loads[at[b]] += rates[b];
        for (int l = 0; l < links.size(); l++) {
            if (!links.get(l).up) continue;
            speeds += links.get(l).speed;
            all += loads[l];
        }
        for (int l = 0; l < links.size(); l++) {
            if (links.get(l).up && loads[l] * speeds * 100 > (100 + k) * all * links.get(l).speed) return false;
        }
        return true;
    }

    int even(int k) {
        if (outside(k, 0, 1000)) return OUTSIDE;
        if (noneUp()) return STATE;
        int[] at = new int[8], rates = new int[8];
        for (int b = 0; b < 8; b++) {
            at[b] = buckets[b].on;
            rates[b] = rates(b);
        }
        return isEven(at, rates, k) ? 1 : 0;
    }

    int least(int k) {
        if (outside(k, 0, 1000)) return OUTSIDE;
        if (noneUp()) return STATE;
        int[] rates = new int[8], at = new int[8], best = null;
        for (int b = 0; b < 8; b++) rates[b] = rates(b);
        int fewest = 9;
        for (int code = 0; code < 65536; code++) {
            int moves = 0;
            boolean fits = true;
            for (int b = 0; b < 8; b++) {
                at[b] = code >> 2 * (7 - b) & 3;
                if (at[b] >= links.size() || !links.get(at[b]).up) fits = false;
                if (at[b] != buckets[b].on) moves++;
            }
            if (fits && moves < fewest && isEven(at, rates, k)) {
                fewest = moves;
                best = at.clone();
            }
        }
        if (best == null) return NONE;
        plan = best;
        return fewest;
    }

    int plan(int b) {
        if (noBucket(b)) return UNKNOWN;
        return plan == null ? STATE : plan[b];
    }
}

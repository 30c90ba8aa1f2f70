/** Flows over twin links; ../shared/DOC.md says what each call must do. */
public final class BundleLinks {
    public static final int NONE = -6, UNKNOWN = -1, OUTSIDE = -2, STATE = -3, FULL = -4, NO = -5;

    private static final int LINKS = 4, BUCKETS = 8, FLOWS = 16, LETTERS = 400;
    private static final int MAX_SPEED = 8, MAX_DELAY = 30, MAX_RATE = 100, MAX_FACTOR = 7;
    private static final int MAX_SENT = 50, MAX_TICKS = 500, MAX_EVENNESS = 1000;
    private static final int HELD = 0, QUEUED = 1, ON_ITS_WAY = 2, WAITS = 3, OUT = 4, LOST = 5, STATES = 6;
    private static final int HOLDING = 1, AT_ONCE = 2;
    private static final int NOT_PINNED = -1;

    private final Links links;
    private final Buckets buckets;
    private final Flows flows;
    private final Letters letters;
    private final Traffic traffic;
    private final Planner planner;

    public BundleLinks() {
        links = new Links();
        buckets = new Buckets();
        flows = new Flows();
        letters = new Letters();
        traffic = new Traffic(links, buckets, flows, letters);
        planner = new Planner(links, buckets, flows);
    }

    // ---- 1 links, flows

    public int link(int speed, int delay) {
        if (!isWithin(speed, 1, MAX_SPEED) || !isWithin(delay, 1, MAX_DELAY)) return OUTSIDE;
        if (links.count >= LINKS) return FULL;
        int made = links.add(speed, delay);
        traffic.takeIn(made);
        return made;
    }

    public int flow(int rate) {
        if (!isWithin(rate, 0, MAX_RATE)) return OUTSIDE;
        if (flows.count >= FLOWS) return FULL;
        return flows.add(rate);
    }

    public int rate(int flow, int r) {
        if (!isBelow(flow, flows.count)) return UNKNOWN;
        if (!isWithin(r, 0, MAX_RATE)) return OUTSIDE;
        int before = flows.rate[flow];
        flows.rate[flow] = r;
        return before;
    }

    public int pin(int flow, int bucket) {
        if (!isBelow(flow, flows.count)) return UNKNOWN;
        if (bucket != NOT_PINNED && !isBelow(bucket, BUCKETS)) return OUTSIDE;
        if (flows.hasUnended(flow)) return STATE;
        int before = flows.bucketOf(flow);
        flows.pinned[flow] = bucket;
        return before;
    }

    public int hash(int a, int c) {
        if (!isWithin(a, 0, MAX_FACTOR) || !isWithin(c, 0, MAX_FACTOR)) return OUTSIDE;
        if (letters.hasUnended()) return STATE;
        flows.a = a;
        flows.c = c;
        return 1;
    }

    public int numbers(boolean on) {
        if (letters.hasUnended()) return STATE;
        int before = oneIf(traffic.numbersOn);
        traffic.numbersOn = on;
        return before;
    }

    // ---- 2 letters, ticks

    public int send(int flow, int n) {
        if (!isBelow(flow, flows.count)) return UNKNOWN;
        if (!isWithin(n, 1, MAX_SENT)) return OUTSIDE;
        if (letters.count + n > LETTERS) return FULL;
        for (int sent = 0; sent < n; sent++) traffic.post(flow);
        return letters.count;
    }

    public int tick(int n) {
        if (!isWithin(n, 0, MAX_TICKS)) return OUTSIDE;
        int end = traffic.time + n;
        for (int done = 0; done < n && traffic.isBusy(); done++) traffic.passTick();
        // Once nothing is busy only time passes, however many ticks are left.
        traffic.time = end;
        return end;
    }

    public int move(int bucket, int link, int how) {
        if (!isBelow(bucket, BUCKETS) || !isBelow(link, links.count)) return UNKNOWN;
        if (!isWithin(how, 0, AT_ONCE)) return OUTSIDE;
        if (buckets.on[bucket] == NONE || buckets.isUnsettled(bucket)) return STATE;
        if (!links.up[link] || buckets.on[bucket] == link) return NO;
        if (how == AT_ONCE && !traffic.numbersOn) return NO;
        return oneIf(traffic.startMove(bucket, link, how));
    }

    public int drop(int bucket) {
        if (!isBelow(bucket, BUCKETS)) return UNKNOWN;
        if (buckets.to[bucket] == NONE) return STATE;
        return traffic.cancelMove(bucket);
    }

    public int fail(int link) {
        if (!isBelow(link, links.count)) return UNKNOWN;
        if (!links.up[link]) return STATE;
        return traffic.breakLink(link);
    }

    public int back(int link) {
        if (!isBelow(link, links.count)) return UNKNOWN;
        if (links.up[link]) return STATE;
        links.up[link] = true;
        return traffic.takeIn(link);
    }

    // ---- what is told

    public int letter(int i, int what) {
        if (!isBelow(i, letters.count)) return UNKNOWN;
        switch (what) {
            case 0: return letters.flow[i];
            case 1: return letters.place[i];
            case 2: return letters.bucket[i];
            case 3: return letters.state[i];
            case 4: return letters.link[i];
            case 5: return letters.sentAt[i];
            case 6: return letters.leftAt[i];
            case 7: return letters.arrivesAt[i];
            case 8: return letters.endedAt[i];
            default: return OUTSIDE;
        }
    }

    public int about(int link, int what) {
        if (!isBelow(link, links.count)) return UNKNOWN;
        switch (what) {
            case 0: return links.speed[link];
            case 1: return links.delay[link];
            case 2: return oneIf(links.up[link]);
            case 3: return links.queueEnd[link] - links.queueStart[link];
            case 4: return links.queueStart[link] - links.wayStart[link];
            case 5: return buckets.howManyOn(link);
            case 6: return planner.loadOf(link);
            case 7: return links.leftEver[link];
            default: return OUTSIDE;
        }
    }

    public int bucket(int b, int what) {
        if (!isBelow(b, BUCKETS)) return UNKNOWN;
        switch (what) {
            case 0: return buckets.on[b];
            case 1: return buckets.to[b];
            case 2: return oneIf(buckets.holds[b]);
            case 3: return buckets.held[b];
            case 4: return flows.rateOfBucket(b);
            case 5: return buckets.moved[b];
            default: return OUTSIDE;
        }
    }

    public int ofFlow(int f, int what) {
        if (!isBelow(f, flows.count)) return UNKNOWN;
        switch (what) {
            case 0: return flows.rate[f];
            case 1: return flows.bucketOf(f);
            case 2: return flows.sent[f];
            case 3: return flows.cameOut[f];
            case 4: return flows.lost[f];
            case 5: return oneIf(flows.pinned[f] != NOT_PINNED);
            default: return OUTSIDE;
        }
    }

    public int out(int i) {
        return isBelow(i, letters.inState[OUT]) ? letters.inOrderOut[i] : NONE;
    }

    public int ordered(int flow) {
        if (!isBelow(flow, flows.count)) return UNKNOWN;
        return oneIf(!flows.mixedUp[flow]);
    }

    public int told(int what) {
        switch (what) {
            case 0: return traffic.time;
            case 1: return links.count;
            case 2: return flows.count;
            case 3: return letters.count;
            case 4: return letters.inState[HELD];
            case 5: return letters.inState[QUEUED];
            case 6: return letters.inState[ON_ITS_WAY];
            case 7: return letters.inState[WAITS];
            case 8: return letters.inState[OUT];
            case 9: return letters.inState[LOST];
            case 10: return oneIf(traffic.numbersOn);
            default: return OUTSIDE;
        }
    }

    // ---- 3 evenness

    public int even(int k) {
        if (!isWithin(k, 0, MAX_EVENNESS)) return OUTSIDE;
        if (!links.isAnyUp()) return STATE;
        return oneIf(planner.isEven(k));
    }

    public int least(int k) {
        if (!isWithin(k, 0, MAX_EVENNESS)) return OUTSIDE;
        if (!links.isAnyUp()) return STATE;
        return planner.fewestMoves(k);
    }

    public int plan(int b) {
        if (!isBelow(b, BUCKETS)) return UNKNOWN;
        if (!planner.hasPlan) return STATE;
        return planner.latest[b];
    }

    private static boolean isWithin(int number, int least, int most) {
        return number >= least && number <= most;
    }

    private static boolean isBelow(int index, int count) {
        return index >= 0 && index < count;
    }

    private static int oneIf(boolean holds) {
        return holds ? 1 : 0;
    }

    /**
     * The links, each with a row of the letters that were ever queued there, in that order.
     * A letter is queued only once and a link's delay never changes, so one row serves as
     * both lines: from wayStart on those on their way, from queueStart on those queued.
     */
    private static final class Links {
        int count;
        final int[] speed = new int[LINKS];
        final int[] delay = new int[LINKS];
        final boolean[] up = new boolean[LINKS];
        final int[][] row = new int[LINKS][LETTERS];
        final int[] wayStart = new int[LINKS];
        final int[] queueStart = new int[LINKS];
        final int[] queueEnd = new int[LINKS];
        final int[] leftEver = new int[LINKS];

        int add(int newSpeed, int newDelay) {
            int l = count;
            speed[l] = newSpeed;
            delay[l] = newDelay;
            up[l] = true;
            count++;
            return l;
        }

        boolean isAnyUp() {
            for (int l = 0; l < count; l++) {
                if (up[l]) return true;
            }
            return false;
        }
    }

    /** The buckets; held[] counts the letters in state HELD so that each need not be looked for. */
    private static final class Buckets {
        final int[] on = new int[BUCKETS];
        final int[] to = new int[BUCKETS];
        final boolean[] holds = new boolean[BUCKETS];
        final int[] held = new int[BUCKETS];
        final int[] moved = new int[BUCKETS];

        Buckets() {
            for (int b = 0; b < BUCKETS; b++) {
                on[b] = NONE;
                to[b] = NONE;
            }
        }

        boolean isUnsettled(int b) {
            return to[b] != NONE || holds[b];
        }

        boolean isAnyUnsettled() {
            for (int b = 0; b < BUCKETS; b++) {
                if (isUnsettled(b)) return true;
            }
            return false;
        }

        int howManyOn(int l) {
            int found = 0;
            for (int b = 0; b < BUCKETS; b++) {
                if (on[b] == l) found++;
            }
            return found;
        }
    }

    private static final class Flows {
        int count;
        int a = 1;
        int c = 0;
        final int[] rate = new int[FLOWS];
        final int[] pinned = new int[FLOWS];
        final int[] sent = new int[FLOWS];
        final int[] cameOut = new int[FLOWS];
        final int[] lost = new int[FLOWS];
        final int[] latestOut = new int[FLOWS];
        final boolean[] mixedUp = new boolean[FLOWS];

        int add(int newRate) {
            int f = count;
            rate[f] = newRate;
            pinned[f] = NOT_PINNED;
            latestOut[f] = NONE;
            count++;
            return f;
        }

        int bucketOf(int f) {
            return pinned[f] != NOT_PINNED ? pinned[f] : (f * a + c) % BUCKETS;
        }

        boolean hasUnended(int f) {
            return cameOut[f] + lost[f] < sent[f];
        }

        int rateOfBucket(int b) {
            int sum = 0;
            for (int f = 0; f < count; f++) {
                if (bucketOf(f) == b) sum += rate[f];
            }
            return sum;
        }

        void noteOut(int f, int place) {
            cameOut[f]++;
            if (place < latestOut[f]) mixedUp[f] = true;
            latestOut[f] = place;
        }
    }

    /** The letters by number, as rows; inState[] counts those in each state. */
    private static final class Letters {
        int count;
        final int[] flow = new int[LETTERS];
        final int[] place = new int[LETTERS];
        final int[] bucket = new int[LETTERS];
        final int[] state = new int[LETTERS];
        final int[] link = new int[LETTERS];
        final int[] sentAt = new int[LETTERS];
        final int[] leftAt = new int[LETTERS];
        final int[] arrivesAt = new int[LETTERS];
        final int[] endedAt = new int[LETTERS];
        final int[] inOrderOut = new int[LETTERS];
        final int[] inState = new int[STATES];

        int add(int itsFlow, int itsPlace, int itsBucket, int time) {
            int i = count;
            flow[i] = itsFlow;
            place[i] = itsPlace;
            bucket[i] = itsBucket;
            state[i] = HELD;
            link[i] = NONE;
            sentAt[i] = time;
            leftAt[i] = NONE;
            arrivesAt[i] = NONE;
            endedAt[i] = NONE;
            inState[HELD]++;
            count++;
            return i;
        }

        void turn(int i, int newState) {
            inState[state[i]]--;
            inState[newState]++;
            state[i] = newState;
        }

        boolean hasUnended() {
            return inState[OUT] + inState[LOST] < count;
        }

        boolean isAnyUnderway() {
            return inState[QUEUED] + inState[ON_ITS_WAY] + inState[WAITS] > 0;
        }
    }

    /** What happens to letters and buckets: sending, ticks, moves, links that fail and come back. */
    private static final class Traffic {
        int time;
        boolean numbersOn;
        private final Links links;
        private final Buckets buckets;
        private final Flows flows;
        private final Letters letters;
        private final boolean[] blocked = new boolean[FLOWS];

        Traffic(Links links, Buckets buckets, Flows flows, Letters letters) {
            this.links = links;
            this.buckets = buckets;
            this.flows = flows;
            this.letters = letters;
        }

        void post(int f) {
            if (letters.count >= LETTERS) return;
            int b = flows.bucketOf(f);
            int i = letters.add(f, flows.sent[f], b, time);
            flows.sent[f]++;
            if (buckets.holds[b] || buckets.on[b] == NONE || buckets.held[b] > 0) {
                buckets.held[b]++;
            } else {
                enqueue(i, buckets.on[b]);
            }
        }

        private void enqueue(int i, int l) {
            int end = links.queueEnd[l];
            if (end >= LETTERS) return;
            links.row[l][end] = i;
            links.queueEnd[l] = end + 1;
            letters.link[i] = l;
            letters.turn(i, QUEUED);
        }

        /** Whether a tick could change more than the time. */
        boolean isBusy() {
            return letters.isAnyUnderway() || buckets.isAnyUnsettled();
        }

        void passTick() {
            time++;
            for (int l = 0; l < links.count; l++) {
                if (links.up[l]) leave(l);
            }
            for (int l = 0; l < links.count; l++) arrive(l);
            if (letters.inState[WAITS] > 0) letOutInOrder();
            for (int b = 0; b < BUCKETS; b++) {
                if (buckets.isUnsettled(b)) settle(b);
            }
        }

        private void leave(int l) {
            int start = links.queueStart[l];
            int end = Math.min(start + links.speed[l], links.queueEnd[l]);
            for (int at = start; at < end; at++) {
                int i = links.row[l][at];
                letters.leftAt[i] = time;
                letters.arrivesAt[i] = time + links.delay[l];
                letters.turn(i, ON_ITS_WAY);
            }
            links.queueStart[l] = end;
            links.leftEver[l] += end - start;
        }

        private void arrive(int l) {
            int end = links.queueStart[l];
            int at = links.wayStart[l];
            while (at < end && letters.arrivesAt[links.row[l][at]] == time) {
                int i = links.row[l][at];
                if (numbersOn) {
                    letters.turn(i, WAITS);
                } else {
                    letOut(i);
                }
                at++;
            }
            links.wayStart[l] = at;
        }

        /** Lesser places have lesser numbers, so one pass by numbers lets out all that may come. */
        private void letOutInOrder() {
            for (int f = 0; f < FLOWS; f++) blocked[f] = false;
            for (int i = 0; i < letters.count; i++) {
                int f = letters.flow[i];
                int state = letters.state[i];
                if (state == WAITS && !blocked[f]) {
                    letOut(i);
                } else if (state != OUT && state != LOST) {
                    blocked[f] = true;
                }
            }
        }

        private void letOut(int i) {
            int next = letters.inState[OUT];
            if (next >= LETTERS) return;
            letters.inOrderOut[next] = i;
            letters.turn(i, OUT);
            letters.endedAt[i] = time;
            flows.noteOut(letters.flow[i], letters.place[i]);
        }

        /** Whether the bucket is there at once. */
        boolean startMove(int b, int l, int how) {
            buckets.to[b] = l;
            buckets.holds[b] = how == HOLDING;
            if (how == AT_ONCE) {
                reach(b, l);
            } else {
                settle(b);
            }
            return buckets.to[b] == NONE;
        }

        /** A bucket that holds after its link failed is on its new link already, and waits for that one. */
        private void settle(int b) {
            int goal = buckets.to[b] != NONE ? buckets.to[b] : buckets.on[b];
            if (goal != NONE && mayReach(b, goal)) reach(b, goal);
        }

        /** What leaves by the link at the next tick must come behind all that the bucket has underway. */
        private boolean mayReach(int b, int l) {
            if (!letters.isAnyUnderway()) return true;
            int soonest = time + 1 + links.delay[l];
            for (int i = 0; i < letters.count; i++) {
                if (letters.bucket[i] != b) continue;
                if (letters.state[i] == QUEUED) return false;
                if (letters.state[i] == ON_ITS_WAY && letters.arrivesAt[i] >= soonest) return false;
            }
            return true;
        }

        private void reach(int b, int l) {
            if (buckets.to[b] != NONE) buckets.moved[b]++;
            buckets.to[b] = NONE;
            buckets.on[b] = l;
            release(b);
        }

        /** Ends the holding; answers how many letters were held. */
        private int release(int b) {
            int l = buckets.on[b];
            int held = buckets.held[b];
            buckets.holds[b] = false;
            if (l == NONE || held == 0) return held;
            for (int i = 0; i < letters.count; i++) {
                if (letters.state[i] == HELD && letters.bucket[i] == b) enqueue(i, l);
            }
            buckets.held[b] = 0;
            return held;
        }

        int cancelMove(int b) {
            buckets.to[b] = NONE;
            return release(b);
        }

        /** Answers how many letters are lost by it. */
        int breakLink(int l) {
            links.up[l] = false;
            int lost = loseLetters(l);
            for (int b = 0; b < BUCKETS; b++) {
                if (buckets.to[b] == l) cancelMove(b);
            }
            for (int b = 0; b < BUCKETS; b++) {
                if (buckets.on[b] != l) continue;
                buckets.to[b] = NONE;
                buckets.on[b] = upLinkWithFewestBuckets();
                buckets.holds[b] = buckets.on[b] != NONE;
                settle(b);
            }
            return lost;
        }

        private int loseLetters(int l) {
            int start = links.wayStart[l];
            int end = links.queueEnd[l];
            for (int at = start; at < end; at++) {
                int i = links.row[l][at];
                letters.turn(i, LOST);
                letters.endedAt[i] = time;
                flows.lost[letters.flow[i]]++;
            }
            links.wayStart[l] = end;
            links.queueStart[l] = end;
            return end - start;
        }

        private int upLinkWithFewestBuckets() {
            int best = NONE;
            int fewest = BUCKETS + 1;
            for (int l = 0; l < links.count; l++) {
                int found = buckets.howManyOn(l);
                if (links.up[l] && found < fewest) {
                    best = l;
                    fewest = found;
                }
            }
            return best;
        }

        /** The link takes the buckets that are on none; answers how many. */
        int takeIn(int l) {
            int taken = 0;
            for (int b = 0; b < BUCKETS; b++) {
                if (buckets.on[b] != NONE) continue;
                buckets.on[b] = l;
                release(b);
                taken++;
            }
            return taken;
        }
    }

    /** Loads, evenness and the least moves. */
    private static final class Planner {
        boolean hasPlan;
        final int[] latest = new int[BUCKETS];
        private final Links links;
        private final Buckets buckets;
        private final Flows flows;
        private final int[] weight = new int[BUCKETS];
        /** Loads of the plan in trial; all 0 between searches, as each step takes back what it adds. */
        private final int[] load = new int[LINKS];
        private final int[] trial = new int[BUCKETS];
        private int allSpeeds;
        private int allLoads;
        private int evenness;
        private int fewest;

        Planner(Links links, Buckets buckets, Flows flows) {
            this.links = links;
            this.buckets = buckets;
            this.flows = flows;
        }

        int loadOf(int l) {
            int sum = 0;
            for (int f = 0; f < flows.count; f++) {
                if (buckets.on[flows.bucketOf(f)] == l) sum += flows.rate[f];
            }
            return sum;
        }

        boolean isEven(int k) {
            measure(k);
            for (int l = 0; l < links.count; l++) {
                if (links.up[l] && !isWithinShare(l, loadOf(l))) return false;
            }
            return true;
        }

        /** Moves among the links that are up change neither all speeds nor all loads. */
        private void measure(int k) {
            evenness = k;
            allSpeeds = 0;
            allLoads = 0;
            for (int l = 0; l < links.count; l++) {
                if (!links.up[l]) continue;
                allSpeeds += links.speed[l];
                allLoads += loadOf(l);
            }
        }

        private boolean isWithinShare(int l, int ofLoad) {
            return ofLoad * allSpeeds * 100 <= (100 + evenness) * allLoads * links.speed[l];
        }

        int fewestMoves(int k) {
            measure(k);
            for (int b = 0; b < BUCKETS; b++) weight[b] = flows.rateOfBucket(b);
            fewest = BUCKETS + 1;
            place(0, 0);
            return fewest <= BUCKETS ? fewest : NONE;
        }

        /**
         * Places bucket b and those behind it, after so many moves. Links are tried by numbers and
         * only plans with fewer moves than the best are kept, so of equal ones the first stays:
         * the one with the lesser links first.
         */
        private void place(int b, int moves) {
            if (b >= BUCKETS) {
                keep(moves);
                return;
            }
            int from = buckets.on[b];
            // A bucket without load makes nothing more even by moving, so it is in no least plan.
            if (from == NONE || !links.up[from] || weight[b] == 0) {
                placeOn(from, b, moves);
                return;
            }
            for (int l = 0; l < links.count; l++) {
                int movesThen = l == from ? moves : moves + 1;
                if (!links.up[l] || movesThen >= fewest) continue;
                load[l] += weight[b];
                // Loads only grow from here, so a link above its share now stays above it.
                if (isWithinShare(l, load[l])) placeOn(l, b, movesThen);
                load[l] -= weight[b];
            }
        }

        private void placeOn(int l, int b, int moves) {
            trial[b] = l;
            place(b + 1, moves);
        }

        private void keep(int moves) {
            fewest = moves;
            System.arraycopy(trial, 0, latest, 0, BUCKETS);
            hasPlan = true;
        }
    }
}

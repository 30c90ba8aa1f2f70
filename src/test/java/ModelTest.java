import java.util.ArrayDeque;
import java.util.Random;

/** Runs of chosen calls, the same every time: the program must answer each as the model does. */
public final class ModelTest {
    private static final int RUNS = 400, CALLS = 512;

    private final Random random;
    private final int run;
    private final int calm;
    private final BundleLinks x = new BundleLinks();
    private final Model m = new Model();
    private final ArrayDeque<String> log = new ArrayDeque<>();
    private int calls = 0;
    private boolean same = true;

    private ModelTest(int run) {
        this.run = run;
        random = new Random(20261117L * 31 + run);
        calm = 1 + random.nextInt(6);
    }

    public static void main(String[] args) {
        int runs = args.length > 0 ? Integer.parseInt(args[0]) : RUNS;
        for (int run = 0; run < runs; run++) new ModelTest(run).go();
        Check.end();
    }

    private void go() {
        begin();
        // The dearest act asks for a plan too, and makes nine calls; the last sixteen are for the flows.
        while (calls + 9 + 16 <= CALLS && same) {
            if (random.nextInt(3) == 0) ask();
            else act();
        }
        if (same) inOrderAlways();
    }

    /** The document's first line: letters of a flow come out in order always. */
    private void inOrderAlways() {
        for (int f = 0; f < m.flows.size(); f++) {
            due("ordered(" + f + ")", x.ordered(f), 1);
            Check.due("run " + run + ", the model: ordered(" + f + ")", m.ordered(f), 1);
        }
    }

    private void begin() {
        int links = random.nextInt(4) + 1;
        for (int l = 0; l < links; l++) link();
        int flows = random.nextInt(12) + 1;
        for (int f = 0; f < flows; f++) flow();
        if (random.nextBoolean()) numbers();
    }

    private void due(String call, int got, int want) {
        calls++;
        log.add(call + " = " + want);
        if (log.size() > 40) log.removeFirst();
        if (got != want && same) {
            same = false;
            Check.due("run " + run + ", call " + calls + ": " + call, got, want);
            System.out.println(String.join("\n", log));
        }
    }

    /** Mostly a number that is in use, now and then one beside. */
    private int near(int count) {
        return random.nextInt(25) == 0 ? random.nextInt(count + 4) - 2 : random.nextInt(Math.max(1, count));
    }

    private void act() {
        int kind = random.nextInt(100);
        if (kind < 22) send();
        else if (kind < 42) tick();
        else if (kind < 72) move();
        else if (kind < 76) drop();
        else if (kind < 76 + calm) fail();
        else if (kind < 88) back();
        else if (kind < 90) rate();
        else if (kind < 93) pin();
        else if (kind < 94) hash();
        else if (kind < 96) numbers();
        else if (kind < 97) link();
        else if (kind < 98) flow();
        else if (kind < 99) even();
        else least();
    }

    private void link() {
        int s = near(9), d = random.nextBoolean() ? near(31) : near(6);
        due("link(" + s + ", " + d + ")", x.link(s, d), m.link(s, d));
    }

    private void flow() {
        int r = near(101);
        due("flow(" + r + ")", x.flow(r), m.flow(r));
    }

    private void rate() {
        int f = near(m.flows.size()), r = near(101);
        due("rate(" + f + ", " + r + ")", x.rate(f, r), m.rate(f, r));
    }

    private void pin() {
        int f = near(m.flows.size()), b = random.nextInt(5) == 0 ? -1 : near(8);
        due("pin(" + f + ", " + b + ")", x.pin(f, b), m.pin(f, b));
    }

    private void hash() {
        int a = near(8), c = near(8);
        due("hash(" + a + ", " + c + ")", x.hash(a, c), m.hash(a, c));
    }

    private void numbers() {
        boolean on = random.nextInt(3) > 0;
        due("numbers(" + on + ")", x.numbers(on), m.numbers(on));
    }

    private void send() {
        int f = near(m.flows.size()), n = random.nextInt(12) == 0 ? near(51) : random.nextInt(4) + (random.nextInt(20) == 0 ? 0 : 1);
        due("send(" + f + ", " + n + ")", x.send(f, n), m.send(f, n));
    }

    private void tick() {
        int n = random.nextInt(30) == 0 ? near(501) : random.nextInt(8) == 0 ? random.nextInt(30) : random.nextInt(3) + 1;
        due("tick(" + n + ")", x.tick(n), m.tick(n));
    }

    private void move() {
        int b = near(8), l = near(m.links.size()), how = near(3);
        due("move(" + b + ", " + l + ", " + how + ")", x.move(b, l, how), m.move(b, l, how));
    }

    private void drop() {
        int b = near(8);
        due("drop(" + b + ")", x.drop(b), m.drop(b));
    }

    private void fail() {
        int l = near(m.links.size());
        due("fail(" + l + ")", x.fail(l), m.fail(l));
    }

    private void back() {
        int l = near(m.links.size());
        due("back(" + l + ")", x.back(l), m.back(l));
    }

    private void even() {
        int k = random.nextInt(3) == 0 ? near(1001) : near(200);
        due("even(" + k + ")", x.even(k), m.even(k));
    }

    private void least() {
        int k = random.nextInt(3) == 0 ? near(1001) : near(100);
        due("least(" + k + ")", x.least(k), m.least(k));
        for (int b = 0; b < 8; b++) due("plan(" + b + ")", x.plan(b), m.plan(b));
    }

    private void ask() {
        int what = random.nextInt(12) - 1;
        switch (random.nextInt(8)) {
            case 0: askLetter(near(m.letters.size()), what); break;
            case 1: askLetter(m.letters.size() - 1 - random.nextInt(12), what); break;
            case 2: askAbout(near(m.links.size()), what); break;
            case 3: askBucket(near(8), what); break;
            case 4: askFlow(near(m.flows.size()), what); break;
            case 5: askOut(m.outs.size() - random.nextInt(8)); break;
            case 6: askOrdered(near(m.flows.size())); break;
            default: due("told(" + what + ")", x.told(what), m.told(what));
        }
    }

    private void askLetter(int i, int what) {
        due("letter(" + i + ", " + what + ")", x.letter(i, what), m.letter(i, what));
    }

    private void askAbout(int l, int what) {
        due("about(" + l + ", " + what + ")", x.about(l, what), m.about(l, what));
    }

    private void askBucket(int b, int what) {
        due("bucket(" + b + ", " + what + ")", x.bucket(b, what), m.bucket(b, what));
    }

    private void askFlow(int f, int what) {
        due("ofFlow(" + f + ", " + what + ")", x.ofFlow(f, what), m.ofFlow(f, what));
    }

    private void askOut(int i) {
        due("out(" + i + ")", x.out(i), m.out(i));
    }

    private void askOrdered(int f) {
        due("ordered(" + f + ")", x.ordered(f), m.ordered(f));
    }
}

import java.util.ArrayList;
import java.util.Arrays;
import java.util.List;
import java.util.stream.Collectors;

/**
 * A run of calls on a new object, made again for every question: so all can be asked behind it,
 * though an object is used for 512 calls at most, and one question can't spoil the next.
 */
final class Run extends Calls {
    private static final int MOST_CALLS = 512;

    /** What may bring to light a change that no question shows at once. */
    private static final Call[] LATER = {
        tick(1), drop(0), drop(1), move(2, 1, 0), send(0, 1), send(1, 1), tick(2),
        fail(1), send(1, 2), tick(1), back(1), move(0, 1, 2), move(3, 0, 1), least(30), tick(500),
        hash(3, 1), numbers(true), pin(0, -1), back(0), link(1, 1), flow(1), flow(2), send(0, 50), tick(500)
    };
    private static final int[] LOOKS = {1, 7, 15, LATER.length};

    private final Call[] calls;
    private String story;

    Run(Call... calls) {
        this.calls = calls;
        if (calls.length > MOST_CALLS) throw new IllegalArgumentException("a run of " + calls.length + " calls");
    }

    Run and(Call... more) {
        Call[] all = Arrays.copyOf(calls, calls.length + more.length);
        System.arraycopy(more, 0, all, calls.length, more.length);
        return new Run(all);
    }

    Run times(int n, Call call) {
        Call[] more = new Call[n];
        Arrays.fill(more, call);
        return and(more);
    }

    private BundleLinks made() {
        BundleLinks x = new BundleLinks();
        for (Call call : calls) call.on(x);
        return x;
    }

    private Model model() {
        Model m = new Model();
        for (Call call : calls) call.on(m);
        return m;
    }

    int answer(Call call) {
        return call.on(made());
    }

    /** Each of the calls, made behind the run, answers what the model does; a refused one changes nothing. */
    void answersAsTheModel(Call... asked) {
        for (Call call : asked) {
            int due = call.on(model());
            if (due >= NO && due <= UNKNOWN) refuses(due, call);
            else Check.due(this + call.toString(), answer(call), due);
        }
    }

    /** Each of the calls, made behind the run, answers this; the model, that other reading, likewise. */
    void answers(int want, Call... asked) {
        for (Call call : asked) {
            Check.due(this + call.toString(), answer(call), want);
            Check.due("the model: " + this + call, call.on(model()), want);
        }
    }

    /** Each of the calls, made behind the run, answers this, and nothing is changed by it, then or later. */
    void refuses(int want, Call... asked) {
        for (Call call : asked) {
            answers(want, call);
            Check.same("what is told after " + this + call, and(call).story(), story());
        }
    }

    /** Likewise of a question, or a call that finds nothing to do. */
    void onlyTells(int want, Call... asked) {
        refuses(want, asked);
    }

    void letterIs(int i, int... want) {
        for (int what = 0; what < 9; what++) answers(want[what], letter(i, what));
    }

    void aboutIs(int l, int... want) {
        for (int what = 0; what < 8; what++) answers(want[what], about(l, what));
    }

    void bucketIs(int b, int... want) {
        for (int what = 0; what < 6; what++) answers(want[what], bucket(b, what));
    }

    void flowIs(int f, int... want) {
        for (int what = 0; what < 6; what++) answers(want[what], ofFlow(f, what));
    }

    void toldIs(int... want) {
        for (int what = 0; what < 11; what++) answers(want[what], told(what));
    }

    void planIs(int... want) {
        for (int b = 0; b < 8; b++) answers(want[b], plan(b));
    }

    /** The states of all letters, by numbers, one sign each: h, q, y (on its way), w, o, l. */
    void statesAre(String want) {
        Check.same("states after " + this, states(), want);
    }

    private String states() {
        StringBuilder text = new StringBuilder();
        int count = told(3).on(made());
        for (int i = 0; i < count; i++) {
            int state = letter(i, 3).on(made());
            text.append(state >= 0 && state < 6 ? "hqywol".charAt(state) : '?');
        }
        return text.toString();
    }

    /** What is told now, and what is answered and told as LATER goes on. */
    private String story() {
        if (story == null) {
            StringBuilder text = new StringBuilder(picture());
            BundleLinks x = made();
            for (Call call : LATER) text.append(call).append(' ').append(call.on(x)).append('\n');
            for (int look : LOOKS) text.append(and(Arrays.copyOf(LATER, look)).picture());
            story = text.toString();
        }
        return story;
    }

    /** All that can be asked behind the run, a row for each thing. */
    String picture() {
        StringBuilder text = new StringBuilder();
        BundleLinks x = made();
        int asked = calls.length;
        for (Call[] row : rows()) {
            if (asked + row.length > MOST_CALLS) {
                x = made();
                asked = calls.length;
            }
            asked += row.length;
            for (Call call : row) text.append(call.on(x)).append(' ');
            text.append('\n');
        }
        return text.toString();
    }

    private List<Call[]> rows() {
        BundleLinks x = made();
        int links = x.told(1), flows = x.told(2), letters = x.told(3), outs = x.told(8);
        List<Call[]> rows = new ArrayList<>();
        rows.add(row("told", 11));
        rows.add(row("plan", 8));
        for (int l = 0; l < links; l++) rows.add(row("about", 8, l));
        for (int b = 0; b < 8; b++) rows.add(row("bucket", 6, b));
        for (int f = 0; f < flows; f++) rows.add(row("ofFlow", 6, f));
        for (int f = 0; f < flows; f++) rows.add(new Call[] {ordered(f)});
        for (int i = 0; i < letters; i++) rows.add(row("letter", 9, i));
        for (int i = 0; i <= outs; i++) rows.add(new Call[] {out(i)});
        return rows;
    }

    private static Call[] row(String name, int whats, int... of) {
        Call[] row = new Call[whats];
        for (int what = 0; what < whats; what++) {
            int[] with = Arrays.copyOf(of, of.length + 1);
            with[of.length] = what;
            row[what] = new Call(name, with);
        }
        return row;
    }

    /** The run's calls as a text; like ones in a row are told once. */
    @Override
    public String toString() {
        List<String> texts = new ArrayList<>();
        String last = "";
        for (Call call : calls) {
            if (!call.toString().equals(last)) texts.add(call + "; ");
            last = call.toString();
        }
        return texts.stream().collect(Collectors.joining());
    }
}

import java.util.Arrays;
import java.util.stream.Collectors;

/** A call as data: it can be made on the program and on the model again and again, and printed. */
final class Call {
    private final String name;
    private final int[] with;

    Call(String name, int... with) {
        this.name = name;
        this.with = with;
    }

    int on(BundleLinks x) {
        switch (name) {
            case "link": return x.link(with[0], with[1]);
            case "flow": return x.flow(with[0]);
            case "rate": return x.rate(with[0], with[1]);
            case "pin": return x.pin(with[0], with[1]);
            case "hash": return x.hash(with[0], with[1]);
            case "numbers": return x.numbers(with[0] != 0);
            case "send": return x.send(with[0], with[1]);
            case "tick": return x.tick(with[0]);
            case "move": return x.move(with[0], with[1], with[2]);
            case "drop": return x.drop(with[0]);
            case "fail": return x.fail(with[0]);
            case "back": return x.back(with[0]);
            case "letter": return x.letter(with[0], with[1]);
            case "about": return x.about(with[0], with[1]);
            case "bucket": return x.bucket(with[0], with[1]);
            case "ofFlow": return x.ofFlow(with[0], with[1]);
            case "out": return x.out(with[0]);
            case "ordered": return x.ordered(with[0]);
            case "told": return x.told(with[0]);
            case "even": return x.even(with[0]);
            case "least": return x.least(with[0]);
            case "plan": return x.plan(with[0]);
            default: throw new IllegalStateException("no call " + name);
        }
    }

    int on(Model m) {
        switch (name) {
            case "link": return m.link(with[0], with[1]);
            case "flow": return m.flow(with[0]);
            case "rate": return m.rate(with[0], with[1]);
            case "pin": return m.pin(with[0], with[1]);
            case "hash": return m.hash(with[0], with[1]);
            case "numbers": return m.numbers(with[0] != 0);
            case "send": return m.send(with[0], with[1]);
            case "tick": return m.tick(with[0]);
            case "move": return m.move(with[0], with[1], with[2]);
            case "drop": return m.drop(with[0]);
            case "fail": return m.fail(with[0]);
            case "back": return m.back(with[0]);
            case "letter": return m.letter(with[0], with[1]);
            case "about": return m.about(with[0], with[1]);
            case "bucket": return m.bucket(with[0], with[1]);
            case "ofFlow": return m.ofFlow(with[0], with[1]);
            case "out": return m.out(with[0]);
            case "ordered": return m.ordered(with[0]);
            case "told": return m.told(with[0]);
            case "even": return m.even(with[0]);
            case "least": return m.least(with[0]);
            case "plan": return m.plan(with[0]);
            default: throw new IllegalStateException("no call " + name);
        }
    }

    @Override
    public String toString() {
        return name + Arrays.stream(with).mapToObj(Integer::toString).collect(Collectors.joining(", ", "(", ")"));
    }
}

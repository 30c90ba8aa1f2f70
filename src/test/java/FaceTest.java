import java.lang.reflect.Constructor;
import java.lang.reflect.Field;
import java.lang.reflect.Method;
import java.lang.reflect.Modifier;
import java.util.Set;
import java.util.TreeSet;

/** The face is the document's and no more; and what a run of calls makes stays small. */
public final class FaceTest {
    private static final int CALLS = 512;

    public static void main(String[] args) {
        constants();
        members();
        room();
        Check.end();
    }

    private static void constants() {
        Check.due("NONE", BundleLinks.NONE, -6);
        Check.due("UNKNOWN", BundleLinks.UNKNOWN, -1);
        Check.due("OUTSIDE", BundleLinks.OUTSIDE, -2);
        Check.due("STATE", BundleLinks.STATE, -3);
        Check.due("FULL", BundleLinks.FULL, -4);
        Check.due("NO", BundleLinks.NO, -5);
    }

    private static void members() {
        Set<String> seen = new TreeSet<>();
        for (Field field : BundleLinks.class.getDeclaredFields()) {
            if (isOpen(field.getModifiers())) seen.add(field.toString());
        }
        for (Constructor<?> made : BundleLinks.class.getDeclaredConstructors()) {
            if (isOpen(made.getModifiers())) seen.add(made.toString());
        }
        for (Method method : BundleLinks.class.getDeclaredMethods()) {
            if (isOpen(method.getModifiers())) seen.add(method.toString());
        }
        Set<String> due = new TreeSet<>();
        for (String name : new String[] {"NONE", "UNKNOWN", "OUTSIDE", "STATE", "FULL", "NO"}) {
            due.add("public static final int BundleLinks." + name);
        }
        due.add("public BundleLinks()");
        due.add("public int BundleLinks.numbers(boolean)");
        for (String name : new String[] {"flow", "tick", "drop", "fail", "back", "out", "ordered", "told", "even", "least", "plan"}) {
            due.add("public int BundleLinks." + name + "(int)");
        }
        for (String name : new String[] {"link", "rate", "pin", "hash", "send", "letter", "about", "bucket", "ofFlow"}) {
            due.add("public int BundleLinks." + name + "(int,int)");
        }
        due.add("public int BundleLinks.move(int,int,int)");
        Check.same("the face", String.join("\n", seen), String.join("\n", due));
        Check.due("public final", BundleLinks.class.getModifiers() & (Modifier.PUBLIC | Modifier.FINAL), Modifier.PUBLIC | Modifier.FINAL);
    }

    private static boolean isOpen(int modifiers) {
        return !Modifier.isPrivate(modifiers);
    }

    /** All is made in the constructor: what 512 dear calls make must not grow with them. */
    private static void room() {
        com.sun.management.ThreadMXBean counter =
            (com.sun.management.ThreadMXBean) java.lang.management.ManagementFactory.getThreadMXBean();
        dearCalls(new BundleLinks());
        BundleLinks x = new BundleLinks();
        long me = Thread.currentThread().getId();
        long before = counter.getThreadAllocatedBytes(me);
        dearCalls(x);
        long made = counter.getThreadAllocatedBytes(me) - before;
        if (made > 1000000) Check.due("bytes made by 512 calls", made, 1000000);
    }

    private static void dearCalls(BundleLinks x) {
        for (int l = 0; l < 4; l++) x.link(l + 1, 30 - l);
        for (int f = 0; f < 16; f++) x.flow(100 - f);
        x.numbers(true);
        int calls = 21;
        for (int f = 0; f < 8; f++, calls++) x.send(f, 50);
        for (; calls + 4 <= CALLS; calls += 4) {
            x.move(calls % 8, calls % 4, calls % 3);
            x.tick(calls % 3 == 0 ? 500 : 1);
            x.least(0);
            x.plan(0);
        }
    }
}

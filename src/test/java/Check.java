/** Counts the answers that are not as due; a test's main method ends with end(). */
final class Check {
    private static int wrong = 0;

    private Check() {
    }

    static void due(String call, long got, long want) {
        if (got != want) {
            wrong++;
            System.out.println(call + " answered " + got + ", due is " + want);
        }
    }

    /** One answer for each what, from 0 on. */
    static void dueAll(String call, int[] got, int... want) {
        due(call + " how many", got.length, want.length);
        for (int i = 0; i < Math.min(got.length, want.length); i++) {
            due(call + " [" + i + "]", got[i], want[i]);
        }
    }

    static int[] letter(BundleLinks x, int i) {
        int[] all = new int[9];
        for (int what = 0; what < all.length; what++) all[what] = x.letter(i, what);
        return all;
    }

    static int[] about(BundleLinks x, int link) {
        int[] all = new int[8];
        for (int what = 0; what < all.length; what++) all[what] = x.about(link, what);
        return all;
    }

    static int[] bucket(BundleLinks x, int b) {
        int[] all = new int[6];
        for (int what = 0; what < all.length; what++) all[what] = x.bucket(b, what);
        return all;
    }

    static int[] ofFlow(BundleLinks x, int f) {
        int[] all = new int[6];
        for (int what = 0; what < all.length; what++) all[what] = x.ofFlow(f, what);
        return all;
    }

    static int[] told(BundleLinks x) {
        int[] all = new int[11];
        for (int what = 0; what < all.length; what++) all[what] = x.told(what);
        return all;
    }

    static int[] plan(BundleLinks x) {
        int[] all = new int[8];
        for (int b = 0; b < all.length; b++) all[b] = x.plan(b);
        return all;
    }

    static void same(String what, String got, String want) {
        if (!got.equals(want)) {
            wrong++;
            System.out.println(what + " told\n" + got + "due is\n" + want);
        }
    }

    static void end() {
        System.out.println(wrong == 0 ? "all answers are as due" : wrong + " answers are not as due");
        if (wrong != 0) System.exit(1);
    }
}

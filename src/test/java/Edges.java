/** Boundary cases, each told with the words of the document that it is of. EdgeTest runs them all. */
abstract class Edges {
    static final int NONE = BarterIsles.NONE;
    static final int MAX = Integer.MAX_VALUE;
    static final int MIN = Integer.MIN_VALUE;

    final Check check;
    private final Doc doc;

    Edges(Check check, Doc doc) {
        this.check = check;
        this.doc = doc;
    }

    abstract void run();

    /** What is asked from here on is of these words. */
    void of(String part, String words) {
        check.of(doc, part, words);
    }

    void is(String what, long due, long got) {
        check.is(what, due, got);
    }

    /** A text on a new object, its FAULT, and the place of that. */
    void fault(String text, int kind, int place) {
        BarterIsles isles = new BarterIsles();
        is("'" + text + "'", kind, Check.tell(isles, text));
        is("the place in '" + text + "'", place, isles.fault());
    }

    void fine(String text) {
        fault(text, 0, NONE);
    }

    static BarterIsles told(String text) {
        return Check.told(text);
    }

    static String names(int count) {
        return Check.names(count);
    }

    /** A row of NAMES as an ARRANGEMENT. */
    static int row(int... names) {
        int arrangement = 0;
        for (int i = 0; i < names.length; i++) {
            arrangement |= names[i] << 3 * i;
        }
        return arrangement;
    }

    /** All that count() tells. */
    static int[] counts(BarterIsles isles) {
        int[] all = new int[11];
        for (int what = 0; what < all.length; what++) {
            all[what] = isles.count(what);
        }
        return all;
    }

    /** NAMES of ISLES, debts, the YEAR, ACTS and how much is SEEN. */
    static int[] state(BarterIsles isles) {
        int n = isles.count(0);
        int[] all = new int[3 + n + n * n];
        all[0] = isles.count(3);
        all[1] = isles.count(4);
        all[2] = isles.count(5);
        for (int one = 0; one < n; one++) {
            all[3 + one] = isles.has(one);
            for (int other = 0; other < n; other++) {
                all[3 + n + one * n + other] = one == other ? 0 : isles.debt(one, other);
            }
        }
        return all;
    }

    void same(String what, int[] due, int[] got) {
        check.yes(what + " (" + java.util.Arrays.toString(got) + ", due is " + java.util.Arrays.toString(due) + ")",
            java.util.Arrays.equals(due, got));
    }
}

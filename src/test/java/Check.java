import java.util.NoSuchElementException;

/** What the tests have in common. */
final class Check {
    static final int NO_SUCH = 1;
    static final int ILLEGAL = 2;

    interface Call {
        long ask();
    }

    interface Test {
        boolean ask();
    }

    private final String test;
    private int wrong = 0;
    private int asked = 0;
    // The sentence that is asked for, ahead of what is told of a wrong answer.
    private String sentence = "";

    Check(String test) {
        this.test = test;
    }

    /** What is asked from here on is of these words in that part of the document. */
    void of(Doc doc, String part, String words) {
        sentence = "";
        yes(part + " says: " + words, doc.touch(part, words));
        sentence = part + ", '" + words + "': ";
    }

    /** What is asked from here on is of no sentence. */
    void none() {
        sentence = "";
    }

    void is(String what, long due, long got) {
        asked++;
        if (got != due) {
            wrong++;
            System.out.println(test + ": " + sentence + what + " answered " + got + ", due is " + due);
        }
    }

    void yes(String what, boolean got) {
        is(what, 1, got ? 1 : 0);
    }

    void no(String what, boolean got) {
        is(what, 0, got ? 1 : 0);
    }

    void noSuch(String what, Call call) {
        is(what + " throws", NO_SUCH, thrown(call));
    }

    void illegal(String what, Call call) {
        is(what + " throws", ILLEGAL, thrown(call));
    }

    void noSuchTest(String what, Test call) {
        noSuch(what, () -> call.ask() ? 1 : 0);
    }

    void illegalTest(String what, Test call) {
        illegal(what, () -> call.ask() ? 1 : 0);
    }

    private static int thrown(Call call) {
        try {
            call.ask();
            return 0;
        } catch (NoSuchElementException e) {
            return NO_SUCH;
        } catch (IllegalArgumentException e) {
            return ILLEGAL;
        }
    }

    void end() {
        System.out.println(test + ": " + asked + " asked, " + wrong + " wrong");
        if (wrong != 0) {
            System.exit(1);
        }
    }

    /** Feeds a text, filled up with blanks. */
    static void feed(BarterIsles isles, String text) {
        for (int from = 0; from < text.length(); from += 20) {
            int[] row = new int[5];
            for (int i = 0; i < 20; i++) {
                int sign = from + i < text.length() ? text.charAt(from + i) : ' ';
                row[i / 4] = row[i / 4] << 8 | sign;
            }
            isles.feed(row[0], row[1], row[2], row[3], row[4]);
        }
    }

    /** So many NAMES of one letter each, all at 0 0. */
    static String names(int count) {
        StringBuilder text = new StringBuilder();
        for (int i = 0; i < count; i++) {
            text.append("name ").append((char) ('a' + i)).append(" 0 0;");
        }
        return text.toString();
    }

    static int tell(BarterIsles isles, String text) {
        feed(isles, text);
        return isles.sea(text.length());
    }

    static BarterIsles told(String text) {
        BarterIsles isles = new BarterIsles();
        int fault = tell(isles, text);
        if (fault != 0) {
            throw new IllegalStateException("a test's text has fault " + fault + " at " + isles.fault() + ": " + text);
        }
        return isles;
    }
}

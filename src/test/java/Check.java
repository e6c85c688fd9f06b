import java.util.NoSuchElementException;

/** Collects the answers of a test that are not as due, and ends it with exit code 1 if there were any. */
final class Check {
    interface Call {
        long ask();
    }

    private final String name;
    private String sentence = "";
    private int asked = 0;
    private int wrong = 0;

    Check(String name) {
        this.name = name;
    }

    /** The sentence of the document that the next answers are due by. */
    void says(String sentence) {
        this.sentence = "[" + sentence + "] ";
    }

    void is(String what, long got, long due) {
        asked++;
        if (got != due) {
            tell(what + " answered " + got + ", due is " + due);
        }
    }

    void yes(String what, boolean got) {
        is(what, got ? 1 : 0, 1);
    }

    void no(String what, boolean got) {
        is(what, got ? 1 : 0, 0);
    }

    void row(String what, JoinedMonths x, long... due) {
        int size = x.count(6);
        is(what + ": numbers of the ROW", size, due.length);
        for (int i = 0; i < due.length && i < size; i++) {
            is(what + ": row(" + i + ")", x.row(i), due[i]);
        }
        throwsNone(what + ": row(" + due.length + ")", () -> x.row(due.length));
    }

    void throwsNone(String what, Call call) {
        asked++;
        try {
            long got = call.ask();
            tell(what + " answered " + got + ", due is a NoSuchElementException");
        } catch (NoSuchElementException e) {
            // as due
        } catch (RuntimeException e) {
            tell(what + " threw " + e + ", due is a NoSuchElementException");
        }
    }

    private void tell(String fault) {
        wrong++;
        if (wrong <= 40) {
            System.out.println(name + ": " + sentence + fault);
        }
    }

    void end() {
        System.out.println(name + ": " + asked + " answers, " + wrong + " wrong");
        if (wrong > 0 || asked == 0) {
            System.exit(1);
        }
    }

    /** THE TEXT becomes this one, of 80 signs at most. */
    static void say(JoinedMonths x, String text) {
        x.end(0);
        for (int i = 0; i < text.length(); i += 4) {
            int v = 0;
            for (int j = i; j < i + 4; j++) {
                v = v << 8 | (j < text.length() ? text.charAt(j) : 0);
            }
            x.sign(v);
        }
        x.end(text.length());
    }

    static JoinedMonths with(String spans) {
        JoinedMonths x = new JoinedMonths();
        for (int i = 0; i < spans.length(); i += 77) {
            say(x, spans.substring(i, Math.min(spans.length(), i + 77)));
            x.spans();
        }
        return x;
    }

    /** n SPANS of one MONTH each, in MONTHS 0, 10, 20, .. */
    static JoinedMonths withSpans(int n) {
        JoinedMonths x = new JoinedMonths();
        for (int k = 0; k < n; k++) {
            x.comes(k % 5, k % 4, 10 * k, 10 * k, 100 + k);
        }
        return x;
    }

    static int spans(JoinedMonths x, String text) {
        say(x, text);
        return x.spans();
    }

    static int laws(JoinedMonths x, String text) {
        say(x, text);
        return x.laws();
    }

    static int ranks(JoinedMonths x, String text) {
        say(x, text);
        return x.ranks();
    }

    static int day(JoinedMonths x, String text) {
        say(x, text);
        return x.day();
    }
}

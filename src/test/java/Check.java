import java.util.NoSuchElementException;

/** Collects the answers of a test that are not as due, and ends it with exit code 1 if there were any. */
final class Check {
    interface Call {
        long ask();
    }

    private final String name;
    private int asked = 0;
    private int wrong = 0;

    Check(String name) {
        this.name = name;
    }

    void is(String what, long got, long due) {
        asked++;
        if (got != due) {
            tell(what + " answered " + got + ", due is " + due);
        }
    }

    void yes(String what, boolean got) {
        is(what, got ? 1 : 0, 1);
    }

    void no(String what, boolean got) {
        is(what, got ? 1 : 0, 0);
    }

    void row(String what, JoinedMonths x, long... due) {
        is(what + ": numbers of the ROW", x.count(6), due.length);
        for (int i = 0; i < due.length && i < x.count(6); i++) {
            is(what + ": row(" + i + ")", x.row(i), due[i]);
        }
        throwsNone(what + ": row(" + due.length + ")", () -> x.row(due.length));
    }

    void throwsNone(String what, Call call) {
        asked++;
        try {
            long got = call.ask();
            tell(what + " answered " + got + ", due is a NoSuchElementException");
        } catch (NoSuchElementException e) {
            // as due
        } catch (RuntimeException e) {
            tell(what + " threw " + e + ", due is a NoSuchElementException");
        }
    }

    private void tell(String fault) {
        wrong++;
        if (wrong <= 40) {
            System.out.println(name + ": " + fault);
        }
    }

    void end() {
        System.out.println(name + ": " + asked + " answers, " + wrong + " wrong");
        if (wrong > 0 || asked == 0) {
            System.exit(1);
        }
    }

    /** THE TEXT becomes this one. */
    static void say(JoinedMonths x, String text) {
        x.end(0);
        for (int i = 0; i < text.length(); i += 4) {
            int v = 0;
            for (int j = i; j < i + 4; j++) {
                v = v << 8 | (j < text.length() ? text.charAt(j) : 0);
            }
            x.sign(v);
        }
        x.end(text.length());
    }

    static JoinedMonths with(String spans) {
        JoinedMonths x = new JoinedMonths();
        for (int i = 0; i < spans.length(); i += 77) {
            say(x, spans.substring(i, Math.min(spans.length(), i + 77)));
            x.spans();
        }
        return x;
    }
}

import java.util.HashMap;
import java.util.List;
import java.util.Map;

/** Objects at the edges, and what a call at a bound must do on them: be taken, or be refused and change nothing. */
final class Edges {
    interface Of {
        long on(JoinedMonths x, int v);
    }

    /** Nothing at all: no SPANS, no TEXT, no ROW, nothing that can be undone, nothing kept. */
    static final Look.Maker EMPTY = JoinedMonths::new;

    /** 4 SPANS, 6 that can be undone, one kept, a ROW of three, a TEXT that is a DAY of two ACTS. */
    static final Look.Maker SOME = () -> {
        JoinedMonths x = Check.with("aw005059100bs066125200ev120200300");
        x.keep(0);
        Check.ranks(x, "swcv");
        x.becomes(1, 0, 30);
        x.indexes(3, 250);
        x.sets(0, 5);
        x.comes(2, 2, 300, 310, 55);
        x.sheet(2, 1, 111, 0);
        x.total();
        Check.say(x, "k03re1099");
        return x;
    };

    /** 20 SPANS, 8 that can be undone, both kept, a ROW as long as can be, 80 signs. */
    static final Look.Maker FULL = () -> {
        JoinedMonths x = Check.with(twenty());
        x.keep(0);
        for (int v = 1; v <= 9; v++) {
            x.becomes(v % 5, 0, v);
        }
        x.keep(1);
        x.pieces();
        Check.say(x, acts(26) + "k0");
        return x;
    };

    private final Check check;
    private final Map<Look.Maker, List<Long>> looks = new HashMap<>();
    private final Map<Look.Maker, List<Long>> textless = new HashMap<>();

    Edges(Check check) {
        this.check = check;
    }

    /** One SPAN over all MONTHS and nineteen of one MONTH each within it: 39 pieces. */
    static String twenty() {
        StringBuilder b = new StringBuilder("av000359001");
        for (int i = 0; i < 19; i++) {
            b.append("aw").append(100 + 2 * i).append(100 + 2 * i).append("001");
        }
        return b.toString();
    }

    /** n ACTS of three signs each, none of which finds CREDIT as it is told. */
    static String acts(int n) {
        StringBuilder b = new StringBuilder();
        for (int i = 0; i < n; i++) {
            b.append(i % 2 == 0 ? "k01" : "k02");
        }
        return b.toString();
    }

    /** The call answers so, and leaves everything as it is. */
    void refused(String what, Look.Maker maker, Look.Act act, long due) {
        check.is(what, Look.answer(act, maker.make()), due);
        List<Long> before = looks.computeIfAbsent(maker, Look::all);
        check.yes(what + " leaves all as it is", before.equals(Look.all(Look.then(maker, act))));
    }

    /** The call, which reads THE TEXT, answers so and leaves everything but THE TEXT, which is empty then. */
    void refusedText(String what, Look.Maker maker, Look.Act act, long due) {
        check.is(what, Look.answer(act, maker.make()), due);
        List<Long> before = textless.computeIfAbsent(maker, m -> Look.all(Look.then(m, x -> x.end(0) ? 1 : 0)));
        check.yes(what + " leaves all but THE TEXT", before.equals(Look.all(Look.then(maker, act))));
    }

    /** On every one of the objects at the edges. */
    void refusedAlways(String what, Look.Act act, long due) {
        refused(what + " on an empty one", EMPTY, act, due);
        refused(what, SOME, act, due);
        refused(what + " on a full one", FULL, act, due);
    }

    /** A call with a number that may be least .. most: these are taken, the next ones on both sides refused. */
    void bounds(String what, Look.Maker maker, int least, int most, long refusal, Of call) {
        for (int v : new int[] {least, most}) {
            check.yes(what + " with " + v + " is taken", Look.answer(x -> call.on(x, v), maker.make()) != refusal);
        }
        for (int v : new int[] {least - 1, most + 1, Integer.MIN_VALUE, Integer.MAX_VALUE}) {
            refused(what + " with " + v, maker, x -> call.on(x, v), refusal);
        }
    }
}

import java.util.ArrayList;
import java.util.List;
import java.util.NoSuchElementException;

/** All that can be seen of an object; asked of several that were made alike, as one answers 512 calls and no more. */
final class Look {
    interface Maker {
        JoinedMonths make();
    }

    interface Act {
        long on(JoinedMonths x);
    }

    /** What answer() tells of a call that throws a NoSuchElementException. */
    static final long THROWS = Long.MIN_VALUE;

    private Look() {
    }

    static long answer(Act act, JoinedMonths x) {
        try {
            return act.on(x);
        } catch (NoSuchElementException e) {
            return THROWS;
        }
    }

    static Maker then(Maker maker, Act act) {
        return () -> {
            JoinedMonths x = maker.make();
            answer(act, x);
            return x;
        };
    }

    static List<Long> row(JoinedMonths x) {
        List<Long> out = new ArrayList<>();
        int size = x.count(6);
        for (int i = 0; i < size; i++) {
            out.add(x.row(i));
        }
        return out;
    }

    /** SPANS, LAWS, RANKS, INDEXES, CREDIT, LEAST, ALL and how many can be undone, by some 190 calls; the ROW is another. */
    static List<Long> state(JoinedMonths x) {
        List<Long> out = new ArrayList<>();
        for (int what : new int[] {0, 1, 2, 3, 4, 5, 8}) {
            out.add((long) x.count(what));
        }
        for (long k = 0; k < out.get(0); k++) {
            for (int what = 0; what < 5; what++) {
                out.add((long) x.span((int) k, what));
            }
        }
        for (int i = 0; i < 20; i++) {
            out.add((long) x.law(i / 4, i % 4));
        }
        for (int y = 0; y < 30; y++) {
            x.year(y);
            out.add(x.row(6));
        }
        return out;
    }

    /** How each MONTH stands: 360 calls for each what. */
    static List<Long> months(Maker maker) {
        List<Long> out = new ArrayList<>();
        for (int what = 0; what < 5; what++) {
            JoinedMonths x = maker.make();
            for (int m = 0; m < 360; m++) {
                out.add((long) x.month(m, what));
            }
        }
        return out;
    }

    /** The state, what can be undone, step by step, and what is kept. */
    static List<Long> behind(Maker maker) {
        List<Long> out = new ArrayList<>(state(maker.make()));
        int undone = maker.make().count(5);
        for (int n = 1; n <= undone + 1; n++) {
            JoinedMonths x = maker.make();
            for (int i = 0; i < n; i++) {
                out.add((long) x.undo());
            }
            out.addAll(state(x));
        }
        for (int i = 0; i < 2; i++) {
            JoinedMonths x = maker.make();
            out.add(x.again(i) ? 1L : 0L);
            out.addAll(state(x));
        }
        return out;
    }

    /** THE TEXT, as far as each call that reads it tells it apart from others. */
    static List<Long> text(Maker maker) {
        List<Long> out = new ArrayList<>();
        Act[] reads = {x -> x.spans(), x -> x.laws(), x -> x.ranks(), x -> x.day()};
        for (Act read : reads) {
            JoinedMonths x = maker.make();
            out.add((long) x.count(7));
            out.add(read.on(x));
            out.add((long) x.count(7));
            out.addAll(state(x));
        }
        return out;
    }

    /** Everything but the ROW. */
    static List<Long> butRow(Maker maker) {
        List<Long> out = behind(maker);
        out.addAll(text(maker));
        return out;
    }

    static List<Long> all(Maker maker) {
        List<Long> out = butRow(maker);
        out.addAll(row(maker.make()));
        return out;
    }
}

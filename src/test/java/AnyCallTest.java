import java.lang.reflect.InvocationTargetException;
import java.lang.reflect.Method;
import java.util.ArrayList;
import java.util.Arrays;
import java.util.List;
import java.util.NoSuchElementException;
import java.util.Random;
import java.util.Set;

/** Any ints in any state: only the document's exceptions; refusals and questions change nothing (Terms, 2). */
public final class AnyCallTest {
    private static final int RUNS = 60;
    private static final Set<String> THROWING = Set.of("span", "law", "month", "row");
    private static final Set<String> READING = Set.of("spans", "laws", "ranks", "day");
    private static final Set<String> CHANGING = Set.of("spans", "laws", "ranks", "sheet", "comes", "goes", "lasts",
            "becomes", "indexes", "sets", "day", "undo", "again");
    private static final int[] EDGES = {Integer.MIN_VALUE, Integer.MIN_VALUE + 1, -100000, -2, -1, 0, 1, 2, 3, 4, 5, 19,
        20, 21, 24, 25, 29, 30, 31, 60, 61, 99, 100, 240, 241, 359, 360, 399, 400, 401, 999, 1000, 65536,
        Integer.MAX_VALUE - 1, Integer.MAX_VALUE};

    public static void main(String[] args) throws Exception {
        Check c = new Check("AnyCallTest");
        List<Method> face = Draw.face();
        for (int run = 0; run < RUNS; run++) {
            Random r = new Random(1000 + run);
            JoinedMonths x = new JoinedMonths();
            int brought = r.nextInt(21);
            for (int i = 0; i < brought; i++) {
                int[] v = Draw.possibleSpan(r);
                x.comes(v[0], v[1], v[2], v[3], v[4]);
            }
            for (int i = 0; i < 490; i++) {
                Method m = face.get(r.nextInt(face.size()));
                call(c, x, m, r.nextInt(3) == 0 ? Draw.args(r, m) : edges(r, m));
            }
        }
        c.end();
    }

    private static Object[] edges(Random r, Method m) {
        Object[] out = new Object[m.getParameterCount()];
        for (int i = 0; i < out.length; i++) {
            out[i] = r.nextInt(10) == 0 ? r.nextInt() : EDGES[r.nextInt(EDGES.length)];
        }
        return out;
    }

    private static void call(Check c, JoinedMonths x, Method m, Object[] args) throws Exception {
        String name = m.getName();
        String what = name + Arrays.toString(args);
        List<Long> state = state(x);
        List<Long> row = row(x);
        int signs = x.count(7);
        boolean refused;
        try {
            Object answer = m.invoke(x, args);
            refused = answer instanceof Boolean b ? !b : name.equals("row") ? false : (Integer) answer < 0;
        } catch (InvocationTargetException e) {
            refused = true;
            c.yes(what + " threw " + e.getCause(), THROWING.contains(name)
                    && e.getCause().getClass() == NoSuchElementException.class);
        }
        if (refused || !CHANGING.contains(name)) {
            c.yes(what + " changed something", state.equals(state(x)));
        }
        if (refused) {
            c.yes(what + " changed the ROW", row.equals(row(x)));
        }
        if (READING.contains(name)) {
            c.is(what + " read THE TEXT", x.count(7), 0);
        } else if (refused || !name.equals("sign") && !name.equals("end")) {
            c.is(what + " left THE TEXT", x.count(7), signs);
        }
    }

    private static List<Long> state(JoinedMonths x) {
        List<Long> out = new ArrayList<>();
        for (int what : new int[] {0, 1, 2, 3, 4, 5, 8}) {
            out.add((long) x.count(what));
        }
        for (int k = 0; k < x.count(0); k++) {
            for (int what = 0; what < 6; what++) {
                out.add((long) x.span(k, what));
            }
        }
        for (int i = 0; i < 20; i++) {
            out.add((long) x.law(i / 4, i % 4));
        }
        for (int i = 0; i < 360 * 5; i++) {
            out.add((long) x.month(i / 5, i % 5));
        }
        return out;
    }

    private static List<Long> row(JoinedMonths x) {
        List<Long> out = new ArrayList<>();
        for (int i = 0; i < x.count(6); i++) {
            out.add(x.row(i));
        }
        return out;
    }
}

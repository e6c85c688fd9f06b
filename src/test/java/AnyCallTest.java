import java.lang.reflect.InvocationTargetException;
import java.lang.reflect.Method;
import java.util.ArrayList;
import java.util.Arrays;
import java.util.List;
import java.util.NoSuchElementException;
import java.util.Random;
import java.util.Set;

/** Any ints in any state: only the document's exceptions; refusals and questions change nothing (Terms, 2). */
public final class AnyCallTest {
    private static final int RUNS = 45;
    private static final int PROBES = 45;
    private static final Set<String> THROWING = Set.of("span", "law", "month", "row");
    private static final Set<String> READING = Set.of("spans", "laws", "ranks", "day");
    private static final Set<String> CHANGING = Set.of("spans", "laws", "ranks", "sheet", "comes", "goes", "lasts",
            "becomes", "indexes", "sets", "day", "undo", "again", "keep");
    private static final Set<String> TELLING = Set.of("own", "total", "year", "gaps", "doubles", "pieces", "theoretical",
            "paid", "at", "most", "late", "without", "lawful", "settled", "instead", "worth", "best", "buys", "missing",
            "part", "day", "years");
    private static final int[] EDGES = {Integer.MIN_VALUE, Integer.MIN_VALUE + 1, -100000, -2, -1, 0, 1, 2, 3, 4, 5, 19,
        20, 21, 24, 25, 29, 30, 31, 60, 61, 99, 100, 240, 241, 359, 360, 399, 400, 401, 999, 1000, 65536,
        Integer.MAX_VALUE - 1, Integer.MAX_VALUE};

    private static final Check C = new Check("AnyCallTest");
    private static final List<Method> FACE = Draw.face();

    /** One call of the face, to be made of as many objects as are looked at. */
    private record Step(Method method, Object[] args) {
        String told() {
            return method.getName() + Arrays.toString(args);
        }

        /** Whether it is refused or tells that there is none; nothing but the document's exceptions may come. */
        boolean isRefusedBy(JoinedMonths x) {
            try {
                Object answer = method.invoke(x, args);
                return answer instanceof Boolean b ? !b : answer instanceof Integer i && i < 0;
            } catch (InvocationTargetException e) {
                C.yes(told() + " threw " + e.getCause(), THROWING.contains(method.getName())
                        && e.getCause().getClass() == NoSuchElementException.class);
                return true;
            } catch (IllegalAccessException e) {
                throw new IllegalStateException(e);
            }
        }
    }

    public static void main(String[] args) {
        for (int run = 0; run < RUNS; run++) {
            run(new Random(1000 + run));
        }
        C.end();
    }

    private static void run(Random r) {
        List<Step> steps = new ArrayList<>();
        int brought = r.nextInt(21);
        for (int i = 0; i < brought; i++) {
            int[] v = Draw.possibleSpan(r);
            steps.add(new Step(named("comes"), new Object[] {v[0], v[1], v[2], v[3], v[4]}));
        }
        for (int i = 0; i < 40; i++) {
            Method m = FACE.get(r.nextInt(FACE.size()));
            steps.add(new Step(m, r.nextBoolean() ? Draw.args(r, m) : edges(r, m)));
        }
        addText(r, steps);
        Look.Maker maker = () -> {
            JoinedMonths x = new JoinedMonths();
            for (Step step : steps) {
                step.isRefusedBy(x);
            }
            return x;
        };
        List<Long> all = Look.all(maker);
        List<Long> textless = Look.all(Look.then(maker, x -> x.end(0) ? 1 : 0));
        List<Long> behind = Look.behind(maker);
        for (int i = 0; i < PROBES; i++) {
            Method m = FACE.get(r.nextInt(FACE.size()));
            Step step = new Step(m, r.nextInt(3) == 0 ? Draw.args(r, m) : edges(r, m));
            probe(maker, step, all, textless, behind);
        }
    }

    private static void addText(Random r, List<Step> steps) {
        String text = Draw.text(r, r.nextInt(4), 5);
        steps.add(new Step(named("end"), new Object[] {0}));
        for (int i = 0; i < text.length(); i += 4) {
            steps.add(new Step(named("sign"), new Object[] {Draw.four(text, i)}));
        }
        steps.add(new Step(named("end"), new Object[] {text.length()}));
    }

    private static Method named(String name) {
        for (Method m : FACE) {
            if (m.getName().equals(name)) {
                return m;
            }
        }
        throw new IllegalStateException(name);
    }

    private static Object[] edges(Random r, Method m) {
        Object[] out = new Object[m.getParameterCount()];
        for (int i = 0; i < out.length; i++) {
            out[i] = r.nextInt(10) == 0 ? r.nextInt() : EDGES[r.nextInt(EDGES.length)];
        }
        return out;
    }

    private static void probe(Look.Maker maker, Step step, List<Long> all, List<Long> textless, List<Long> behind) {
        String name = step.method.getName();
        JoinedMonths x = maker.make();
        List<Long> row = Look.row(maker.make());
        boolean refused = step.isRefusedBy(x);
        Look.Maker after = Look.then(maker, y -> step.isRefusedBy(y) ? 1 : 0);
        if (refused && READING.contains(name)) {
            C.yes(step.told() + " changed more than THE TEXT", textless.equals(Look.all(after)));
        } else if (refused) {
            C.yes(step.told() + " changed something", all.equals(Look.all(after)));
        } else if (!CHANGING.contains(name)) {
            C.yes(step.told() + " changed something", behind.equals(Look.behind(after)));
        }
        if (!TELLING.contains(name)) {
            C.yes(step.told() + " changed the ROW", row.equals(Look.row(x)));
        }
        if (READING.contains(name)) {
            C.is(step.told() + " read THE TEXT", x.count(7), 0);
        }
    }
}

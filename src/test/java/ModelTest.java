import java.lang.reflect.InvocationTargetException;
import java.lang.reflect.Method;
import java.util.Arrays;
import java.util.List;
import java.util.Random;

/** Drawn runs of calls, each asked of JoinedMonths and of the Model: answers, exceptions and the ROW are alike. */
public final class ModelTest {
    private static final int RUNS = 600;
    /** An object is used for at most 512 calls; one step with all that is looked at behind it takes up to 160. */
    private static final int CALLS = 512 - 160;
    private static final Check C = new Check("ModelTest");

    private final Random random;
    private final JoinedMonths x = new JoinedMonths();
    private final Model y = new Model();
    private final String name;
    private int calls = 0;

    private ModelTest(int run) {
        random = new Random(run);
        name = "run " + run;
    }

    public static void main(String[] args) throws Exception {
        List<Method> face = Draw.face();
        for (int run = 0; run < RUNS; run++) {
            ModelTest test = new ModelTest(run);
            test.bring();
            // Every other run looks seldom, so that it gets further within its calls.
            int seldom = run % 2 == 0 ? 1 : 12;
            for (int i = 0; test.calls < CALLS; i++) {
                String what = test.step(face);
                if (i % seldom == 0) {
                    test.look(what);
                }
            }
            test.look(test.name + ", at its end");
        }
        C.end();
    }

    private void bring() {
        int brought = random.nextInt(3) > 0 ? 1 + random.nextInt(20) : 0;
        for (int i = 0; i < brought; i++) {
            int[] v = Draw.possibleSpan(random);
            C.is("comes()", x.comes(v[0], v[1], v[2], v[3], v[4]), y.comes(v[0], v[1], v[2], v[3], v[4]));
            calls++;
        }
    }

    private String step(List<Method> face) throws Exception {
        Method m = face.get(random.nextInt(face.size()));
        int textKind = List.of("spans", "laws", "ranks", "day").indexOf(m.getName());
        if (textKind >= 0 && random.nextInt(8) > 0) {
            say(Draw.text(random, textKind, y.count(0)));
        }
        Object[] args = Draw.args(random, m);
        String what = name + ", call " + calls + ": " + m.getName() + Arrays.toString(args);
        String got = ask(m, x, args);
        String due = ask(Model.class.getMethod(m.getName(), m.getParameterTypes()), y, args);
        C.yes(what + " answered " + got + ", due is " + due, got.equals(due));
        calls++;
        return what;
    }

    private void say(String text) {
        C.is("end()", x.end(0) ? 1 : 0, y.end(0) ? 1 : 0);
        for (int j = 0; j < text.length(); j += 4) {
            int v = Draw.four(text, j);
            C.is("sign()", x.sign(v), y.sign(v));
            calls++;
        }
        C.is("end()", x.end(text.length()) ? 1 : 0, y.end(text.length()) ? 1 : 0);
        calls += 2;
    }

    private static String ask(Method m, Object of, Object[] args) throws Exception {
        try {
            return m.invoke(of, args).toString();
        } catch (InvocationTargetException e) {
            return e.getCause().getClass().getName();
        }
    }

    private void look(String what) {
        int size = y.count(6);
        for (int i = 0; i < 9; i++) {
            C.is(what + ", then count(" + i + ")", x.count(i), y.count(i));
            calls++;
        }
        for (int i = 0; i < size; i++) {
            C.is(what + ", then row(" + i + ")", Look.answer(row(i), x), y.row(i));
            calls++;
        }
    }

    private static Look.Act row(int i) {
        return x -> x.row(i);
    }
}

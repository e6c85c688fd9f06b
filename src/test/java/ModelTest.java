import java.lang.reflect.InvocationTargetException;
import java.lang.reflect.Method;
import java.util.List;
import java.util.Random;

/** Drawn runs of calls, each asked of JoinedMonths and of the Model: answers, exceptions and the ROW are alike. */
public final class ModelTest {
    private static final int RUNS = 150;
    private static final int CALLS = 200;

    public static void main(String[] args) throws Exception {
        Check c = new Check("ModelTest");
        List<Method> face = Draw.face();
        for (int run = 0; run < RUNS; run++) {
            run(c, face, run);
        }
        c.end();
    }

    private static void run(Check c, List<Method> face, int run) throws Exception {
        Random r = new Random(run);
        JoinedMonths x = new JoinedMonths();
        Model y = new Model();
        int brought = r.nextInt(3) > 0 ? 1 + r.nextInt(20) : 0;
        for (int i = 0; i < brought; i++) {
            int[] v = Draw.possibleSpan(r);
            c.is("comes()", x.comes(v[0], v[1], v[2], v[3], v[4]), y.comes(v[0], v[1], v[2], v[3], v[4]));
        }
        for (int i = 0; i < CALLS; i++) {
            Method m = face.get(r.nextInt(face.size()));
            int textKind = List.of("spans", "laws", "ranks", "day").indexOf(m.getName());
            if (textKind >= 0 && r.nextInt(8) > 0) {
                String text = Draw.text(r, textKind, x.count(0));
                c.is("end()", x.end(0) ? 1 : 0, y.end(0) ? 1 : 0);
                for (int j = 0; j < text.length(); j += 4) {
                    int v = Draw.four(text, j);
                    c.is("sign()", x.sign(v), y.sign(v));
                }
                c.is("end()", x.end(text.length()) ? 1 : 0, y.end(text.length()) ? 1 : 0);
            }
            Object[] args = Draw.args(r, m);
            String what = "run " + run + ", call " + i + ": " + m.getName() + java.util.Arrays.toString(args);
            String got = ask(m, x, args);
            String due = ask(Model.class.getMethod(m.getName(), m.getParameterTypes()), y, args);
            c.yes(what + " answered " + got + ", due is " + due, got.equals(due));
            rows(c, what, x, y);
        }
    }

    private static String ask(Method m, Object of, Object[] args) throws Exception {
        try {
            return m.invoke(of, args).toString();
        } catch (InvocationTargetException e) {
            return e.getCause().getClass().getName();
        }
    }

    private static void rows(Check c, String what, JoinedMonths x, Model y) {
        for (int i = 0; i < 9; i++) {
            c.is(what + ", then count(" + i + ")", x.count(i), y.count(i));
        }
        for (int i = 0; i < Math.min(x.count(6), y.count(6)); i++) {
            c.is(what + ", then row(" + i + ")", x.row(i), y.row(i));
        }
    }
}

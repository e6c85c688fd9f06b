import java.lang.reflect.Constructor;
import java.lang.reflect.Field;
import java.lang.reflect.Method;
import java.lang.reflect.Modifier;
import java.util.Arrays;
import java.util.TreeSet;

/** The public face of the document, and no other member that can be seen. */
public final class FaceTest {
    private static final String[] FACE = {
        "int sign(int)", "boolean end(int)", "int spans()", "int laws()", "int ranks()", "int sheet(int,int,int,int)",
        "int span(int,int) NoSuchElementException", "int law(int,int) NoSuchElementException",
        "int month(int,int) NoSuchElementException", "int own(int)", "int total()", "int year(int)", "int gaps()",
        "int doubles()", "int pieces()", "int both(int,int)", "int national(int)", "int theoretical(int)",
        "int paid(int)", "int at(int)", "int most()", "int late(int,int,int,int,int)", "int without(int)",
        "int lawful(int,int,int)", "int settled(int,int)", "int instead(int,int,int,int,int,int)", "int worth()",
        "int best()", "int buys(int,int,int)", "int missing(int)", "int earns(int)", "int part(int,int)",
        "int comes(int,int,int,int,int)", "int goes(int)", "int lasts(int,int,int)", "int becomes(int,int,int)",
        "int indexes(int,int)", "int sets(int,int)", "int day()", "int undo()", "int years(int,int)",
        "boolean keep(int)", "boolean again(int)", "int count(int)", "long row(int) NoSuchElementException",
    };

    public static void main(String[] args) throws Exception {
        Check c = new Check("FaceTest");
        Class<?> face = JoinedMonths.class;
        TreeSet<String> due = new TreeSet<>(Arrays.asList(FACE));
        TreeSet<String> seen = new TreeSet<>();
        TreeSet<String> names = new TreeSet<>();
        for (Method m : face.getDeclaredMethods()) {
            if (!Modifier.isPrivate(m.getModifiers())) {
                seen.add(told(m));
                names.add(m.getName());
            }
        }
        c.yes("the methods are " + seen, seen.equals(due));
        c.yes("public and final", Modifier.isPublic(face.getModifiers()) && Modifier.isFinal(face.getModifiers()));
        Constructor<?>[] made = face.getDeclaredConstructors();
        c.yes("one public constructor without parameters", made.length == 1
                && Modifier.isPublic(made[0].getModifiers()) && made[0].getParameterCount() == 0);
        for (Field f : face.getDeclaredFields()) {
            boolean isNone = f.getName().equals("NONE") && Modifier.isPublic(f.getModifiers())
                    && Modifier.isStatic(f.getModifiers()) && Modifier.isFinal(f.getModifiers());
            c.yes("field " + f.getName(), isNone || Modifier.isPrivate(f.getModifiers()));
            c.yes("static " + f.getName(), !Modifier.isStatic(f.getModifiers()) || Modifier.isFinal(f.getModifiers()));
        }
        c.is("NONE", JoinedMonths.NONE, -1);
        c.yes("at most twenty fields", own(face) <= 20);
        for (Class<?> inside : face.getDeclaredClasses()) {
            c.yes(inside + " is static", Modifier.isStatic(inside.getModifiers()));
            c.no(inside + " is public", Modifier.isPublic(inside.getModifiers()));
            c.yes(inside + ": at most twenty fields", own(inside) <= 20);
            hidesNoName(c, inside, names);
        }
        hidesNoName(c, face, names);
        c.end();
    }

    private static void hidesNoName(Check c, Class<?> one, TreeSet<String> names) {
        for (Method m : one.getDeclaredMethods()) {
            boolean ofTheFace = one == JoinedMonths.class && Modifier.isPublic(m.getModifiers());
            c.yes(m + " bears a name of its own", ofTheFace || !names.contains(m.getName()));
            c.yes(m + " takes at most seven parameters", m.getParameterCount() <= 7);
        }
    }

    private static int own(Class<?> one) {
        int fields = 0;
        for (Field f : one.getDeclaredFields()) {
            fields += Modifier.isStatic(f.getModifiers()) ? 0 : 1;
        }
        return fields;
    }

    private static String told(Method m) {
        StringBuilder b = new StringBuilder(m.getReturnType().getName()).append(' ').append(m.getName()).append('(');
        for (Class<?> p : m.getParameterTypes()) {
            b.append(b.charAt(b.length() - 1) == '(' ? "" : ",").append(p.getName());
        }
        b.append(')');
        for (Class<?> e : m.getExceptionTypes()) {
            b.append(' ').append(e.getSimpleName());
        }
        return b.toString();
    }
}

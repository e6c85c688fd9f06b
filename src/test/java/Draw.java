import java.lang.reflect.Method;
import java.util.ArrayList;
import java.util.Comparator;
import java.util.List;
import java.util.Random;

/** Draws arguments and texts that are mostly such as can be, at the edges often, wrong at times. */
final class Draw {
    private static final String SIGNS = "abcdewscv0123456789+-mrkli \377x";

    private Draw() {
    }

    /** The calls of the face; sorted, as reflection has no order of its own and each time the same runs are to be drawn. */
    static List<Method> face() {
        List<Method> face = new ArrayList<>();
        for (Method m : JoinedMonths.class.getMethods()) {
            if (m.getDeclaringClass() == JoinedMonths.class) {
                face.add(m);
            }
        }
        face.sort(Comparator.comparing(Method::getName));
        return face;
    }

    static Object[] args(Random r, Method m) {
        Object[] out = new Object[m.getParameterCount()];
        String bounds = switch (m.getName()) {
            case "sign" -> "i";
            case "end" -> "e";
            case "sheet" -> "3 20 i i";
            case "span" -> "k 5";
            case "law" -> "4 3";
            case "month" -> "m 4";
            case "own", "national", "theoretical", "paid", "missing", "earns" -> "4";
            case "year" -> "29";
            case "both" -> "4 4";
            case "at" -> "m";
            case "late", "comes" -> "4 3 f t p";
            case "instead" -> "k 4 3 f t p";
            case "without", "goes" -> "k";
            case "lawful", "becomes" -> "4 3 v";
            case "settled" -> "24 60";
            case "buys" -> "4 24 p";
            case "part" -> "4 m";
            case "lasts" -> "k f t";
            case "indexes" -> "29 x";
            case "sets" -> "1 60";
            case "years" -> "i 30";
            case "keep", "again" -> "1";
            case "count" -> "8";
            case "row" -> "8";
            default -> "";
        };
        String[] each = bounds.split(" ");
        int from = 0;
        for (int i = 0; i < out.length; i++) {
            int v = number(r, each[i], from);
            from = each[i].equals("f") ? v : from;
            out[i] = v;
        }
        return out;
    }

    private static int number(Random r, String bound, int from) {
        if (r.nextInt(60) == 0) {
            return r.nextBoolean() ? r.nextInt() : r.nextBoolean() ? Integer.MIN_VALUE : Integer.MAX_VALUE;
        }
        switch (bound) {
            case "i":
                return r.nextBoolean() ? r.nextInt() : r.nextInt(2000) - 500;
            case "e":
                return r.nextInt(30) - 2;
            case "k":
                return upTo(r, r.nextBoolean() ? 4 : 20);
            case "m":
            case "f":
                return upTo(r, 359);
            case "t":
                return r.nextInt(5) == 0 ? upTo(r, 360) : Math.min(359, from + r.nextInt(r.nextBoolean() ? 8 : 90) - (r.nextInt(9) == 0 ? 1 : 0));
            case "p":
                return r.nextInt(4) == 0 ? upTo(r, 999) : 98 + r.nextInt(5);
            case "v":
                return r.nextInt(3) == 0 ? upTo(r, 359) : upTo(r, 99);
            case "x":
                return 48 + upTo(r, 353);
            default:
                return upTo(r, Integer.parseInt(bound));
        }
    }

    private static int upTo(Random r, int most) {
        int edge = r.nextInt(40);
        return edge == 0 ? -1 : edge == 1 ? most + 1 : edge == 2 ? most : edge == 3 ? 0 : r.nextInt(most + 1);
    }

    static int[] possibleSpan(Random r) {
        int from = r.nextInt(360);
        return new int[] {r.nextInt(5), r.nextInt(4), from, Math.min(359, from + r.nextInt(40)), 1 + r.nextInt(300)};
    }

    static int four(String text, int at) {
        int v = 0;
        for (int j = at; j < at + 4; j++) {
            v = v << 8 | (j < text.length() ? text.charAt(j) : 0);
        }
        return v;
    }

    static String text(Random r, int kind, int spans) {
        StringBuilder b = new StringBuilder();
        int parts = kind == 2 ? 1 : 1 + r.nextInt(4);
        for (int i = 0; i < parts; i++) {
            b.append(switch (kind) {
                case 0 -> span(r);
                case 1 -> law(r);
                case 2 -> ranks(r);
                default -> act(r, spans);
            });
        }
        if (r.nextInt(4) == 0 && b.length() > 0) {
            b.setCharAt(r.nextInt(b.length()), SIGNS.charAt(r.nextInt(SIGNS.length())));
        }
        if (r.nextInt(8) == 0) {
            b.setLength(r.nextInt(b.length() + 1));
        }
        if (r.nextInt(12) == 0) {
            b.append("abw0+".charAt(r.nextInt(5)));
        }
        return b.length() > 76 ? b.substring(0, 76) : b.toString();
    }

    private static String digits(int v, int n) {
        String d = "000" + Math.max(0, v);
        return d.substring(d.length() - n);
    }

    private static String span(Random r) {
        int from = number(r, "f", 0);
        int f = Math.max(0, Math.min(999, from));
        return "" + "abcde".charAt(r.nextInt(5)) + "wscv".charAt(r.nextInt(4)) + digits(f, 3)
                + digits(Math.min(999, f + r.nextInt(60)), 3) + digits(Math.min(999, Math.max(0, number(r, "p", 0))), 3);
    }

    private static String law(Random r) {
        return "" + "abcde".charAt(r.nextInt(5)) + digits(1 + r.nextInt(r.nextInt(9) == 0 ? 300 : 100), 3)
                + digits(r.nextInt(100), 2) + digits(r.nextInt(100), 2) + digits(r.nextInt(370), 3);
    }

    private static String ranks(Random r) {
        StringBuilder left = new StringBuilder("wscv");
        StringBuilder b = new StringBuilder();
        while (left.length() > 0) {
            int i = r.nextInt(left.length());
            b.append(left.charAt(i));
            left.deleteCharAt(i);
        }
        return b.toString();
    }

    private static String act(Random r, int spans) {
        int k = r.nextInt(spans + 1);
        return switch (r.nextInt(7)) {
            case 0 -> "+" + span(r);
            case 1 -> "-" + digits(k, 2);
            case 2 -> "m" + digits(k, 2) + span(r).substring(2, 8);
            case 3 -> "r" + "abcde".charAt(r.nextInt(5)) + "0123".charAt(r.nextInt(4)) + digits(r.nextInt(100), 3);
            case 4 -> "k" + digits(r.nextInt(26), 2);
            case 5 -> "l" + digits(r.nextInt(62), 2);
            default -> "i" + digits(r.nextInt(31), 2) + digits(49 + r.nextInt(353), 3);
        };
    }
}

/** Terms 1 and 2: each number that a call takes, at its bounds; what is beyond is refused, and changes nothing. */
public final class BoundsTest {
    private static final Check C = new Check("BoundsTest");
    private static final Edges E = new Edges(C);
    private static final int NONE = -1;
    private static final int FALSE = 0;

    public static void main(String[] args) {
        months();
        countries();
        countriesThatWouldBe();
        laws();
        kinds();
        pays();
        order();
        credit();
        least();
        years();
        spanNumbers();
        whats();
        howMany();
        kept();
        C.end();
    }

    private static void months() {
        C.says("Terms 1: MONTHS 0 .. 359");
        E.bounds("month(m, 0)", Edges.SOME, 0, 359, Look.THROWS, (x, v) -> x.month(v, 0));
        E.bounds("at(m)", Edges.SOME, 0, 359, NONE, (x, v) -> x.at(v));
        E.bounds("part(0, m)", Edges.SOME, 0, 359, NONE, (x, v) -> x.part(0, v));
        E.bounds("comes(from)", Edges.SOME, 0, 359, NONE, (x, v) -> x.comes(0, 0, v, 359, 1));
        E.bounds("comes(to)", Edges.SOME, 0, 359, NONE, (x, v) -> x.comes(0, 0, 0, v, 1));
        E.bounds("late(from)", Edges.SOME, 0, 359, NONE, (x, v) -> x.late(0, 0, v, 359, 1));
        E.bounds("late(to)", Edges.SOME, 0, 359, NONE, (x, v) -> x.late(0, 0, 0, v, 1));
        E.bounds("instead(from)", Edges.SOME, 0, 359, NONE, (x, v) -> x.instead(0, 0, 0, v, 359, 1));
        E.bounds("instead(to)", Edges.SOME, 0, 359, NONE, (x, v) -> x.instead(0, 0, 0, 0, v, 1));
        E.bounds("lasts(from)", Edges.SOME, 0, 359, NONE, (x, v) -> x.lasts(0, v, 359));
        E.bounds("lasts(to)", Edges.SOME, 0, 359, NONE, (x, v) -> x.lasts(0, 0, v));
    }

    private static void countries() {
        C.says("Terms 1: COUNTRIES a .. e (0 .. 4)");
        E.bounds("law(country, 0)", Edges.SOME, 0, 4, Look.THROWS, (x, v) -> x.law(v, 0));
        E.bounds("own(country)", Edges.SOME, 0, 4, NONE, (x, v) -> x.own(v));
        E.bounds("both(one, 2)", Edges.SOME, 0, 4, NONE, (x, v) -> x.both(v, 2));
        E.bounds("both(2, other)", Edges.SOME, 0, 4, NONE, (x, v) -> x.both(2, v));
        E.bounds("national(country)", Edges.SOME, 0, 4, NONE, (x, v) -> x.national(v));
        E.bounds("theoretical(country)", Edges.SOME, 0, 4, NONE, (x, v) -> x.theoretical(v));
        E.bounds("paid(country)", Edges.SOME, 0, 4, NONE, (x, v) -> x.paid(v));
        E.bounds("comes(country)", Edges.SOME, 0, 4, NONE, (x, v) -> x.comes(v, 0, 0, 0, 1));
        E.bounds("becomes(country)", Edges.SOME, 0, 4, NONE, (x, v) -> x.becomes(v, 0, 1));
    }

    private static void countriesThatWouldBe() {
        C.says("Terms 1: COUNTRIES a .. e (0 .. 4)");
        E.bounds("late(country)", Edges.SOME, 0, 4, NONE, (x, v) -> x.late(v, 0, 0, 0, 1));
        E.bounds("instead(country)", Edges.SOME, 0, 4, NONE, (x, v) -> x.instead(0, v, 0, 0, 0, 1));
        E.bounds("lawful(country)", Edges.SOME, 0, 4, NONE, (x, v) -> x.lawful(v, 0, 1));
        E.bounds("buys(country)", Edges.SOME, 0, 4, NONE, (x, v) -> x.buys(v, 1, 1));
        E.bounds("missing(country)", Edges.SOME, 0, 4, NONE, (x, v) -> x.missing(v));
        E.bounds("earns(country)", Edges.SOME, 0, 4, NONE, (x, v) -> x.earns(v));
        E.bounds("part(country, 359)", Edges.SOME, 0, 4, NONE, (x, v) -> x.part(v, 359));
    }

    private static void laws() {
        C.says("Terms 1: NEEDED 1 .. 240, FLAT 0 .. 99, PART 0 .. 99, AGE 0 .. 359");
        int[] least = {1, 0, 0, 0};
        int[] most = {240, 99, 99, 359};
        for (int i = 0; i < 4; i++) {
            int what = i;
            E.bounds("becomes(0, " + what + ", v)", Edges.SOME, least[i], most[i], NONE, (x, v) -> x.becomes(0, what, v));
            E.bounds("becomes(4, " + what + ", v)", Edges.EMPTY, least[i], most[i], NONE, (x, v) -> x.becomes(4, what, v));
            E.bounds("lawful(0, " + what + ", v)", Edges.FULL, least[i], most[i], NONE, (x, v) -> x.lawful(0, what, v));
            for (int v : new int[] {least[i], most[i]}) {
                JoinedMonths x = Edges.FULL.make();
                C.is("what it was", x.becomes(3, what, v), new int[] {8, 10, 20, 300}[what]);
                C.is("law(3, " + what + ")", x.law(3, what), v);
            }
        }
    }

    private static void kinds() {
        C.says("Terms 1: KINDS w, s, c, v (0 .. 3)");
        E.bounds("comes(kind)", Edges.SOME, 0, 3, NONE, (x, v) -> x.comes(0, v, 0, 0, 1));
        E.bounds("late(kind)", Edges.SOME, 0, 3, NONE, (x, v) -> x.late(0, v, 0, 0, 1));
        E.bounds("instead(kind)", Edges.SOME, 0, 3, NONE, (x, v) -> x.instead(0, 0, v, 0, 0, 1));
    }

    private static void pays() {
        C.says("Terms 1: PAY 1 .. 999");
        E.bounds("comes(pay)", Edges.SOME, 1, 999, NONE, (x, v) -> x.comes(0, 0, 0, 0, v));
        E.bounds("late(pay)", Edges.SOME, 1, 999, NONE, (x, v) -> x.late(0, 0, 0, 0, v));
        E.bounds("instead(pay)", Edges.SOME, 1, 999, NONE, (x, v) -> x.instead(0, 0, 0, 0, 0, v));
        E.bounds("buys(p)", Edges.SOME, 1, 999, NONE, (x, v) -> x.buys(0, 1, v));
    }

    private static void order() {
        C.says("Terms 1: its last one (not ahead of the first)");
        for (int m : new int[] {0, 1, 180, 359}) {
            C.is("comes() for one MONTH", Edges.SOME.make().comes(0, 0, m, m, 1), 5);
            C.yes("late() for one MONTH", Edges.SOME.make().late(0, 0, m, m, 1) > 0);
            C.yes("instead() for one MONTH", Edges.SOME.make().instead(0, 0, 0, m, m, 1) > 0);
            C.is("lasts() for one MONTH", Edges.SOME.make().lasts(0, m, m), 1);
        }
        for (int m : new int[] {1, 180, 359}) {
            E.refused("comes()", Edges.SOME, x -> x.comes(0, 0, m, m - 1, 1), NONE);
            E.refused("late()", Edges.SOME, x -> x.late(0, 0, m, m - 1, 1), NONE);
            E.refused("instead()", Edges.SOME, x -> x.instead(0, 0, 0, m, m - 1, 1), NONE);
            E.refused("lasts()", Edges.SOME, x -> x.lasts(0, m, m - 1), NONE);
        }
        E.refused("comes(359, 0)", Edges.SOME, x -> x.comes(0, 0, 359, 0, 1), NONE);
    }

    private static void credit() {
        C.says("Terms 1: CREDIT 0 .. 24");
        E.bounds("sets(0, v)", Edges.SOME, 0, 24, NONE, (x, v) -> x.sets(0, v));
        E.bounds("settled(c, 12)", Edges.SOME, 0, 24, NONE, (x, v) -> x.settled(v, 12));
        for (int v : new int[] {0, 24}) {
            JoinedMonths x = new JoinedMonths();
            C.is("sets(0, " + v + ")", x.sets(0, v), 6);
            C.is("CREDIT", x.count(1), v);
            C.is("LEAST stays", x.count(2), 12);
        }
    }

    private static void least() {
        C.says("Terms 1: LEAST 0 .. 60");
        E.bounds("sets(1, v)", Edges.SOME, 0, 60, NONE, (x, v) -> x.sets(1, v));
        E.bounds("settled(6, l)", Edges.SOME, 0, 60, NONE, (x, v) -> x.settled(6, v));
        for (int v : new int[] {0, 60}) {
            JoinedMonths x = new JoinedMonths();
            C.is("sets(1, " + v + ")", x.sets(1, v), 12);
            C.is("LEAST", x.count(2), v);
            C.is("CREDIT stays", x.count(1), 6);
        }
    }

    private static void years() {
        C.says("Terms 1: YEARS 0 .. 29, each with an INDEX 50 .. 400");
        E.bounds("year(y)", Edges.SOME, 0, 29, NONE, (x, v) -> x.year(v));
        E.bounds("indexes(y, 99)", Edges.SOME, 0, 29, NONE, (x, v) -> x.indexes(v, 99));
        for (int y : new int[] {0, 29}) {
            E.bounds("indexes(" + y + ", v)", Edges.SOME, 50, 400, NONE, (x, v) -> x.indexes(y, v));
            for (int v : new int[] {50, 400}) {
                JoinedMonths x = new JoinedMonths();
                C.is("indexes(" + y + ", " + v + ")", x.indexes(y, v), 100);
                x.year(y);
                C.is("INDEX", x.row(6), v);
                C.is("of one YEAR", x.count(8), 1);
            }
        }
    }

    private static void spanNumbers() {
        C.says("none such: no SPAN of this number");
        int[] last = {3, 19};
        Look.Maker[] makers = {Edges.SOME, Edges.FULL};
        for (int i = 0; i < 2; i++) {
            E.bounds("span(k, 0)", makers[i], 0, last[i], Look.THROWS, (x, v) -> x.span(v, 0));
            E.bounds("without(k)", makers[i], 0, last[i], NONE, (x, v) -> x.without(v));
            E.bounds("instead(k)", makers[i], 0, last[i], NONE, (x, v) -> x.instead(v, 0, 0, 0, 0, 1));
            E.bounds("goes(k)", makers[i], 0, last[i], NONE, (x, v) -> x.goes(v));
            E.bounds("lasts(k)", makers[i], 0, last[i], NONE, (x, v) -> x.lasts(v, 7, 9));
        }
        for (int k : new int[] {-1, 0, 1, Integer.MIN_VALUE, Integer.MAX_VALUE}) {
            E.refused("span() without SPANS", Edges.EMPTY, x -> x.span(k, 0), Look.THROWS);
            E.refused("without() without SPANS", Edges.EMPTY, x -> x.without(k), NONE);
            E.refused("instead() without SPANS", Edges.EMPTY, x -> x.instead(k, 0, 0, 0, 0, 1), NONE);
            E.refused("goes() without SPANS", Edges.EMPTY, x -> x.goes(k), NONE);
            E.refused("lasts() without SPANS", Edges.EMPTY, x -> x.lasts(k, 7, 9), NONE);
        }
    }

    private static void whats() {
        C.says("another what");
        E.bounds("span(0, what)", Edges.SOME, 0, 5, Look.THROWS, (x, v) -> x.span(0, v));
        E.bounds("span(19, what)", Edges.FULL, 0, 5, Look.THROWS, (x, v) -> x.span(19, v));
        E.bounds("law(0, what)", Edges.SOME, 0, 3, Look.THROWS, (x, v) -> x.law(0, v));
        E.bounds("law(4, what)", Edges.EMPTY, 0, 3, Look.THROWS, (x, v) -> x.law(4, v));
        E.bounds("month(0, what)", Edges.SOME, 0, 4, Look.THROWS, (x, v) -> x.month(0, v));
        E.bounds("month(359, what)", Edges.EMPTY, 0, 4, Look.THROWS, (x, v) -> x.month(359, v));
        E.bounds("lawful(0, what, 1)", Edges.SOME, 0, 3, NONE, (x, v) -> x.lawful(0, v, 1));
        E.bounds("becomes(0, what, 1)", Edges.SOME, 0, 3, NONE, (x, v) -> x.becomes(0, v, 1));
        E.bounds("sets(what, 3)", Edges.SOME, 0, 1, NONE, (x, v) -> x.sets(v, 3));
        E.bounds("count(what)", Edges.SOME, 0, 8, NONE, (x, v) -> x.count(v));
    }

    private static void howMany() {
        C.says("Promise 30: n (1 .. 24) of them");
        E.bounds("buys(0, n, 1)", Edges.SOME, 1, 24, NONE, (x, v) -> x.buys(0, v, 1));
        C.says("Promise 42: n times (1 .. 30)");
        E.bounds("years(1, n)", Edges.SOME, 1, 30, NONE, (x, v) -> x.years(1, v));
        E.bounds("years(1, n)", Edges.FULL, 1, 30, NONE, (x, v) -> x.years(1, v));
        E.bounds("years(1, n)", Edges.EMPTY, 1, 30, NONE, (x, v) -> x.years(1, v));
        C.says("Promise 46: number i of the ROW");
        E.bounds("row(i)", Edges.SOME, 0, 2, Look.THROWS, (x, v) -> x.row(v));
        E.bounds("row(i)", Edges.FULL, 0, 116, Look.THROWS, (x, v) -> x.row(v));
        C.says("Promise 3: its first n signs");
        E.bounds("end(n)", Edges.SOME, 0, 9, FALSE, (x, v) -> x.end(v) ? 1 : 0);
        E.bounds("end(n)", Edges.FULL, 0, 80, FALSE, (x, v) -> x.end(v) ? 1 : 0);
        E.bounds("end(n)", Edges.EMPTY, 0, 0, FALSE, (x, v) -> x.end(v) ? 1 : 0);
    }

    private static void kept() {
        C.says("Promises 43, 44: under a number 0 .. 1");
        E.bounds("keep(i)", Edges.SOME, 0, 1, FALSE, (x, v) -> x.keep(v) ? 1 : 0);
        E.bounds("keep(i)", Edges.EMPTY, 0, 1, FALSE, (x, v) -> x.keep(v) ? 1 : 0);
        E.bounds("again(i)", Edges.FULL, 0, 1, FALSE, (x, v) -> x.again(v) ? 1 : 0);
    }
}

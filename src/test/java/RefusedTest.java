import java.util.List;

/** Terms 2: what refused calls answer and leave as it is, which answer comes first, and when the ROW stays. */
public final class RefusedTest {
    private static final Check C = new Check("RefusedTest");
    private static final Edges E = new Edges(C);
    private static final int NONE = -1;

    public static void main(String[] args) {
        refusedByWhatThereIs();
        asItIsAlready();
        thereIsNone();
        refusedTexts();
        refusedTextsOfAFullOne();
        noneComesFirst();
        questionsChangeNothing();
        otherCallsLeaveTheRow();
        changesLeaveTheRow();
        bits();
        C.end();
    }

    private static void refusedByWhatThereIs() {
        C.says("Terms 2: Refused calls answer NONE, or false, and change nothing");
        E.refused("sign() behind 80 signs", Edges.FULL, x -> x.sign(0x6b303378), NONE);
        E.refused("undo() of nothing", Edges.EMPTY, x -> x.undo(), NONE);
        E.refused("again(0) of nothing kept", Edges.EMPTY, x -> x.again(0) ? 1 : 0, 0);
        E.refused("again(1) of nothing kept", Edges.EMPTY, x -> x.again(1) ? 1 : 0, 0);
        E.refused("again(1), only 0 is kept", Edges.SOME, x -> x.again(1) ? 1 : 0, 0);
        E.refusedAlways("again(-1)", x -> x.again(-1) ? 1 : 0, 0);
        E.refusedAlways("again(2)", x -> x.again(2) ? 1 : 0, 0);
        for (int c = 0; c < 5; c++) {
            int country = c;
            E.refused("both() of one and the same", Edges.SOME, x -> x.both(country, country), NONE);
        }
        E.refusedAlways("both(5, 5)", x -> x.both(5, 5), NONE);
        E.refused("comes() with 20", Edges.FULL, x -> x.comes(0, 0, 0, 0, 1), -3);
        E.refused("late() with 20", Edges.FULL, x -> x.late(0, 0, 0, 0, 1), -3);
        E.refusedAlways("sheet(), missing", x -> x.sheet(3, 20, 7, 1), -3);
        E.refusedAlways("sheet(), missing, n below 0", x -> x.sheet(3, -1, 7, 1), -3);
        E.refusedAlways("sheet(), another kind", x -> x.sheet(-1, 20, 7, 1), NONE);
        E.refusedAlways("sheet(), another kind", x -> x.sheet(4, 20, 7, 1), NONE);
        for (int k = 0; k < 3; k++) {
            int kind = k;
            E.refusedAlways("sheet(), n below 0", x -> x.sheet(kind, -1, 7, 1), -2);
            E.refusedAlways("sheet(), n below 0", x -> x.sheet(kind, Integer.MIN_VALUE, 7, 1), -2);
            E.refusedAlways("sheet(), n above 20", x -> x.sheet(kind, 21, 7, 1), NONE);
            E.refusedAlways("sheet(), n above 20", x -> x.sheet(kind, Integer.MAX_VALUE, 7, 1), NONE);
        }
    }

    private static void asItIsAlready() {
        C.says("-2: it is so (it does): nothing changes");
        E.refused("lasts()", Edges.SOME, x -> x.lasts(0, 5, 59), -2);
        E.refused("lasts()", Edges.SOME, x -> x.lasts(3, 300, 310), -2);
        E.refused("lasts()", Edges.FULL, x -> x.lasts(0, 0, 359), -2);
        int[] law = {30, 10, 20, 300};
        for (int i = 0; i < 4; i++) {
            int what = i;
            E.refused("becomes(1, " + what + ", v)", Edges.SOME, x -> x.becomes(1, what, law[what]), -2);
        }
        E.refused("indexes()", Edges.SOME, x -> x.indexes(3, 250), -2);
        E.refused("indexes()", Edges.SOME, x -> x.indexes(2, 100), -2);
        E.refused("sets() of CREDIT", Edges.SOME, x -> x.sets(0, 5), -2);
        E.refused("sets() of LEAST", Edges.SOME, x -> x.sets(1, 12), -2);
    }

    private static void thereIsNone() {
        C.says("Terms 2: the ROW stays with each answer that tells that there is none");
        Look.Maker told = Look.then(Edges.EMPTY, x -> x.year(4));
        E.refused("most(), ALL is 0", told, x -> x.most(), -2);
        E.refused("buys() without SPANS", told, x -> x.buys(0, 24, 999), -2);
        E.refused("part(), TOTAL is 0", told, x -> x.part(0, 359), -2);
        E.refused("part(), TOTAL up to it is 0", Edges.SOME, x -> x.part(0, 4), -2);
        for (int c = 0; c < 5; c++) {
            int country = c;
            E.refused("earns(), none", told, x -> x.earns(country), -2);
        }
        E.refused("earns(), none of d", Edges.SOME, x -> x.earns(3), -2);
    }

    private static void refusedTexts() {
        C.says("Terms 2: nothing but THE TEXT, which a call that reads it empties");
        for (Look.Maker maker : List.of(Edges.EMPTY, Edges.SOME)) {
            E.refusedText("spans()", maker, x -> Check.spans(x, "aw000000001aw000000001x"), -23);
            E.refusedText("spans()", maker, x -> Check.spans(x, "x"), NONE);
            E.refusedText("laws()", maker, x -> Check.laws(x, "a0010000000b0010000000c"), -24);
            E.refusedText("laws()", maker, x -> Check.laws(x, "x"), NONE);
            E.refusedText("ranks()", maker, x -> Check.ranks(x, "vcs"), -4);
            E.refusedText("ranks()", maker, x -> Check.ranks(x, "vcsww"), -5);
            E.refusedText("ranks()", maker, x -> Check.ranks(x, ""), NONE);
            E.refusedText("day()", maker, x -> Check.day(x, "k11l11+aw000000001i00101ra0001x"), -31);
            E.refusedText("day()", maker, x -> Check.day(x, "x"), NONE);
        }
    }

    private static void refusedTextsOfAFullOne() {
        C.says("Terms 2: nothing but THE TEXT, which a call that reads it empties");
        E.refusedText("spans() with 20", Edges.FULL, x -> Check.spans(x, "aw000000001"), NONE);
        E.refusedText("spans() of 80 signs", Edges.FULL, x -> x.spans(), NONE);
        E.refusedText("laws() of 80 signs", Edges.FULL, x -> x.laws(), NONE);
        E.refusedText("ranks() of 80 signs", Edges.FULL, x -> x.ranks(), NONE);
        E.refusedText("day() of 80 signs", Edges.FULL, x -> x.day(), -81);
    }

    private static void noneComesFirst() {
        C.says("Terms 2: NONE comes ahead of other answers below 0");
        int[][] wrong = {{-1, 0, 0, 0, 1}, {5, 0, 0, 0, 1}, {0, -1, 0, 0, 1}, {0, 4, 0, 0, 1}, {0, 0, -1, 0, 1},
            {0, 0, 0, 360, 1}, {0, 0, 5, 4, 1}, {0, 0, 0, 0, 0}, {0, 0, 0, 0, 1000}};
        for (int[] w : wrong) {
            E.refused("comes() with 20", Edges.FULL, x -> x.comes(w[0], w[1], w[2], w[3], w[4]), NONE);
            E.refused("late() with 20", Edges.FULL, x -> x.late(w[0], w[1], w[2], w[3], w[4]), NONE);
            E.refused("instead() with 20", Edges.FULL, x -> x.instead(0, w[0], w[1], w[2], w[3], w[4]), NONE);
        }
        E.refusedAlways("sheet(), n above 20, missing", x -> x.sheet(3, 21, 7, 1), NONE);
        E.refusedAlways("sheet(), another kind, n below 0", x -> x.sheet(4, -1, 7, 1), NONE);
        E.refusedAlways("sheet(), another kind, n below 0", x -> x.sheet(-1, -1, 7, 1), NONE);
        E.refused("buys() of no COUNTRY, without SPANS", Edges.EMPTY, x -> x.buys(5, 1, 1), NONE);
        E.refused("buys() of 0, without SPANS", Edges.EMPTY, x -> x.buys(0, 0, 1), NONE);
        E.refused("buys() of 25, without SPANS", Edges.EMPTY, x -> x.buys(0, 25, 1), NONE);
        E.refused("buys() for 0, without SPANS", Edges.EMPTY, x -> x.buys(0, 1, 0), NONE);
        E.refused("buys() for 1000, without SPANS", Edges.EMPTY, x -> x.buys(0, 1, 1000), NONE);
        E.refused("earns() of no COUNTRY, none", Edges.EMPTY, x -> x.earns(5), NONE);
        E.refused("part() of no COUNTRY, TOTAL is 0", Edges.EMPTY, x -> x.part(5, 0), NONE);
        E.refused("part() of no MONTH, TOTAL is 0", Edges.EMPTY, x -> x.part(0, 360), NONE);
    }

    private static void questionsChangeNothing() {
        C.says("Terms 2: Questions change nothing");
        Look.Act[] questions = {x -> x.span(0, 5), x -> x.law(0, 0), x -> x.month(0, 0), x -> x.own(0), x -> x.total(),
            x -> x.year(0), x -> x.gaps(), x -> x.doubles(), x -> x.pieces(), x -> x.both(0, 1), x -> x.national(0),
            x -> x.theoretical(0), x -> x.paid(0), x -> x.at(359), x -> x.most(), x -> x.late(0, 0, 0, 359, 999),
            x -> x.without(0), x -> x.lawful(0, 1, 99), x -> x.settled(24, 60), x -> x.instead(0, 1, 1, 0, 359, 9),
            x -> x.worth(), x -> x.best(), x -> x.buys(1, 24, 999), x -> x.missing(0), x -> x.earns(0),
            x -> x.part(0, 359), x -> x.years(1, 30), x -> x.count(4), x -> x.row(0)};
        for (Look.Maker maker : List.of(Edges.EMPTY, Edges.SOME, Edges.FULL)) {
            List<Long> before = Look.butRow(maker);
            List<Long> months = Look.months(maker);
            for (int i = 0; i < questions.length; i++) {
                Look.Maker asked = Look.then(maker, questions[i]);
                C.yes("question " + i, before.equals(Look.butRow(asked)));
                C.yes("question " + i + ", MONTHS", months.equals(Look.months(asked)));
            }
        }
    }

    private static void otherCallsLeaveTheRow() {
        C.says("Terms 2: the ROW stays with calls that do not tell of it");
        Look.Act[] calls = {x -> x.span(0, 5), x -> x.law(0, 0), x -> x.month(70, 2), x -> x.both(0, 1),
            x -> x.national(0), x -> x.earns(1), x -> x.count(6), x -> x.row(1), x -> x.sign(0), x -> x.end(1) ? 1 : 0,
            x -> x.sheet(2, 2, 9, 9), x -> x.keep(1) ? 1 : 0, x -> x.again(0) ? 1 : 0, x -> x.undo()};
        for (int i = 0; i < calls.length; i++) {
            JoinedMonths x = Edges.SOME.make();
            List<Long> row = Look.row(x);
            C.yes("call " + i + " is taken", Look.answer(calls[i], x) >= 0);
            C.yes("call " + i, row.size() == 3 && row.equals(Look.row(x)));
        }
    }

    private static void changesLeaveTheRow() {
        C.says("Terms 2: the ROW stays with calls that do not tell of it");
        Look.Act[] calls = {x -> Check.spans(x, "aw000000001"), x -> x.end(0) ? x.spans() : -1,
            x -> Check.laws(x, "a0010000000"), x -> x.end(0) ? x.laws() : -1, x -> Check.ranks(x, "vcsw"),
            x -> x.comes(0, 0, 0, 0, 1), x -> x.goes(0), x -> x.lasts(0, 0, 0), x -> x.becomes(0, 0, 1),
            x -> x.indexes(0, 50), x -> x.sets(0, 0), x -> x.sets(1, 0)};
        for (int i = 0; i < calls.length; i++) {
            JoinedMonths x = Edges.SOME.make();
            List<Long> row = Look.row(x);
            C.yes("change " + i + " is taken", Look.answer(calls[i], x) >= 0);
            C.yes("change " + i, row.size() == 3 && row.equals(Look.row(x)));
        }
    }

    private static void bits() {
        C.says("Terms 2: Sets are bits (COUNTRY a is 1)");
        for (int country = 0; country < 5; country++) {
            JoinedMonths x = new JoinedMonths();
            x.becomes(country, 3, 299);
            x.at(299);
            C.is("COUNTRY " + country, x.row(0), 1 << country);
        }
    }
}

import java.util.List;

/** Terms 2: each call behind a question, or behind a refused call, answers and does what it would without it. */
public final class PairsTest {
    private static final Check C = new Check("PairsTest");

    private static final Look.Act[] QUESTIONS = {x -> x.own(0), x -> x.total(), x -> x.year(5), x -> x.gaps(),
        x -> x.doubles(), x -> x.pieces(), x -> x.both(0, 1), x -> x.national(0), x -> x.theoretical(0), x -> x.paid(0),
        x -> x.at(359), x -> x.most(), x -> x.late(3, 0, 0, 359, 999), x -> x.without(0), x -> x.lawful(0, 1, 99),
        x -> x.lawful(4, 3, 0), x -> x.settled(24, 60), x -> x.instead(0, 1, 1, 0, 359, 9), x -> x.worth(),
        x -> x.best(), x -> x.buys(1, 24, 999), x -> x.missing(0), x -> x.earns(0), x -> x.part(0, 359),
        x -> x.years(1, 30)};

    private static final Look.Act[] REFUSED = {x -> Check.spans(x, "aw000359999bw000359999x"),
        x -> Check.laws(x, "a0019900000b0019900000x"), x -> Check.ranks(x, "vcs"), x -> Check.ranks(x, "vcsww"),
        x -> Check.day(x, "k01l01i00400ra1099-00+dw000359999x"), x -> x.comes(0, 0, 0, 0, 0), x -> x.goes(-1),
        x -> x.lasts(0, 6, 5), x -> x.becomes(0, 0, 0), x -> x.indexes(0, 401), x -> x.indexes(29, 100), x -> x.sets(0, 25),
        x -> x.sets(1, 12), x -> x.sets(2, 1),
        x -> x.settled(24, 61), x -> x.instead(0, 0, 0, 0, 0, 0), x -> x.buys(0, 25, 1), x -> x.years(1, 31),
        x -> x.sheet(3, 1, 7, 0), x -> x.again(2) ? 1 : 0, x -> x.keep(2) ? 1 : 0};

    private static final Look.Act[] CHANGES = {x -> Check.spans(x, "bw000000001"), x -> x.spans(),
        x -> Check.laws(x, "b0010000000"), x -> x.laws(), x -> Check.ranks(x, "vcws"), x -> x.sheet(2, 2, 7, 7),
        x -> x.comes(1, 1, 20, 40, 77), x -> x.goes(0), x -> x.lasts(0, 1, 2), x -> x.becomes(1, 1, 77),
        x -> x.indexes(7, 77), x -> x.sets(0, 7), x -> x.sets(1, 7), x -> Check.day(x, "k08l08"), x -> x.day(),
        x -> x.undo(), x -> x.keep(1) ? 1 : 0, x -> x.again(0) ? 1 : 0};

    public static void main(String[] args) {
        Look.Maker some = Look.then(Edges.SOME, x -> x.end(0) ? 1 : 0);
        Look.Maker full = Look.then(Edges.FULL, x -> x.end(0) ? 1 : 0);
        for (Look.Maker maker : List.of(Edges.EMPTY, some, full)) {
            C.says("Terms 2: Questions change nothing");
            pairs(maker, QUESTIONS, CHANGES);
            answers(maker, QUESTIONS, QUESTIONS);
            C.says("Terms 2: Refused calls change nothing but THE TEXT");
            pairs(maker, REFUSED, CHANGES);
            answers(maker, REFUSED, QUESTIONS);
        }
        C.end();
    }

    private static void pairs(Look.Maker maker, Look.Act[] ahead, Look.Act[] calls) {
        answers(maker, ahead, calls);
        for (int c = 0; c < calls.length; c++) {
            List<Long> due = Look.behind(Look.then(maker, calls[c]));
            for (int a = 0; a < ahead.length; a++) {
                Look.Maker both = Look.then(Look.then(maker, ahead[a]), calls[c]);
                C.yes("what call " + c + " does behind call " + a, due.equals(Look.behind(both)));
            }
        }
    }

    private static void answers(Look.Maker maker, Look.Act[] ahead, Look.Act[] calls) {
        for (int c = 0; c < calls.length; c++) {
            long due = Look.answer(calls[c], maker.make());
            for (int a = 0; a < ahead.length; a++) {
                JoinedMonths x = Look.then(maker, ahead[a]).make();
                List<Long> row = Look.row(x);
                C.is("call " + c + " behind call " + a, Look.answer(calls[c], x), due);
                List<Long> then = Look.row(x);
                C.yes("the ROW of call " + c + " behind call " + a, then.equals(row) || then.equals(rowOf(maker, calls[c])));
            }
        }
    }

    private static List<Long> rowOf(Look.Maker maker, Look.Act call) {
        return Look.row(Look.then(maker, call).make());
    }
}

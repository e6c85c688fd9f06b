/** Promises 34 to 39 and 43 to 46 at their edges, sentence by sentence: changes by hand, and what is kept. */
public final class ChangeEdgesTest {
    private static final Check C = new Check("ChangeEdgesTest");

    public static void main(String[] args) {
        comes();
        goes();
        lasts();
        becomes();
        indexes();
        sets();
        keep();
        again();
        againForgets();
        againOfEach();
        count();
        countRanks();
        countUndo();
        countRow();
        countYears();
        row();
        C.end();
    }

    private static void comes() {
        C.says("Promise 34: A SPAN comes behind all: how many there are. -3: there are 20; NONE: there can't be such a one");
        JoinedMonths x = new JoinedMonths();
        int[][] spans = {{0, 0, 0, 0, 1}, {4, 3, 359, 359, 999}, {2, 1, 0, 359, 500}};
        for (int k = 0; k < 3; k++) {
            int[] s = spans[k];
            C.is("comes()", x.comes(s[0], s[1], s[2], s[3], s[4]), k + 1);
            for (int what = 0; what < 5; what++) {
                C.is("span(" + k + ", " + what + ")", x.span(k, what), s[what]);
            }
        }
        for (int k = 4; k <= 20; k++) {
            C.is("comes()", x.comes(0, 0, 0, 0, 1), k);
        }
        C.is("the 21st", x.comes(0, 0, 0, 0, 1), -3);
        C.is("one that can't be", x.comes(0, 0, 0, 0, 0), -1);
        C.is("20 there are", x.count(0), 20);
        C.is("8 can be undone", x.count(5), 8);
    }

    private static void goes() {
        C.says("Promise 35: SPAN k goes (those behind it get a number less): how many are left. NONE: none such");
        C.is("without SPANS", new JoinedMonths().goes(0), -1);
        for (int gone : new int[] {0, 1, 10, 18, 19}) {
            JoinedMonths x = Check.withSpans(20);
            C.is("goes(" + gone + ")", x.goes(gone), 19);
            for (int k = 0; k < 19; k++) {
                C.is("PAY of SPAN " + k, x.span(k, 4), 100 + (k < gone ? k : k + 1));
            }
            C.throwsNone("span(19, 0)", () -> x.span(19, 0));
            C.is("goes(19)", x.goes(19), -1);
            C.is("goes(-1)", x.goes(-1), -1);
        }
        JoinedMonths one = Check.withSpans(1);
        C.is("the only one", one.goes(0), 0);
        C.is("none is left", one.goes(0), -1);
        C.is("TOTAL", one.total(), 0);
        JoinedMonths full = Check.withSpans(20);
        for (int left = 19; left >= 0; left--) {
            C.is("one by one", full.goes(0), left);
        }
    }

    private static void lasts() {
        C.says("Promise 36: SPAN k lasts from one MONTH to another: how many MONTHS it has. -2: it does; NONE: others");
        JoinedMonths x = Check.with("aw010019100bw020029200");
        C.is("it does", x.lasts(1, 20, 29), -2);
        C.is("only the first is another", x.lasts(1, 21, 29), 9);
        C.is("only the last is another", x.lasts(1, 21, 28), 8);
        C.is("one MONTH, the first", x.lasts(1, 0, 0), 1);
        C.is("one MONTH, the last", x.lasts(1, 359, 359), 1);
        C.is("all", x.lasts(1, 0, 359), 360);
        C.is("it does", x.lasts(1, 0, 359), -2);
        C.is("as the other one does", x.lasts(1, 10, 19), 10);
        int[][] wrong = {{1, -1, 5}, {1, 0, 360}, {1, 5, 4}, {1, 360, 360}, {1, -1, -1}, {2, 10, 19}, {-1, 10, 19}};
        for (int[] w : wrong) {
            C.is("lasts()", x.lasts(w[0], w[1], w[2]), -1);
        }
        int[] due = {1, 0, 10, 19, 200};
        for (int what = 0; what < 5; what++) {
            C.is("all else stays", x.span(1, what), due[what]);
        }
        C.is("six were done", x.count(5), 7);
    }

    private static void becomes() {
        C.says("Promise 37: One number of a LAW becomes v: what it was. -2: it is so; NONE: others");
        int[] first = {60, 10, 20, 300};
        int[] least = {1, 0, 0, 0};
        int[] most = {240, 99, 99, 359};
        for (int country = 0; country < 5; country++) {
            for (int what = 0; what < 4; what++) {
                JoinedMonths x = new JoinedMonths();
                C.is("it is so", x.becomes(country, what, first[what]), -2);
                C.is("beyond the least", x.becomes(country, what, least[what] - 1), -1);
                C.is("beyond the most", x.becomes(country, what, most[what] + 1), -1);
                C.is("none was done", x.count(5), 0);
                C.is("the least", x.becomes(country, what, least[what]), first[what]);
                C.is("it is so", x.becomes(country, what, least[what]), -2);
                C.is("the most, what it was may be 0", x.becomes(country, what, most[what]), least[what]);
                for (int i = 0; i < 20; i++) {
                    boolean it = i / 4 == country && i % 4 == what;
                    C.is("law(" + i / 4 + ", " + i % 4 + ")", x.law(i / 4, i % 4), it ? most[what] : first[i % 4]);
                }
                C.is("two were done", x.count(5), 2);
            }
        }
    }

    private static void indexes() {
        C.says("Promise 38: INDEX of a YEAR becomes v: what it was. -2: it is so; NONE: others");
        for (int y : new int[] {0, 1, 28, 29}) {
            JoinedMonths x = new JoinedMonths();
            C.is("it is so", x.indexes(y, 100), -2);
            C.is("49", x.indexes(y, 49), -1);
            C.is("401", x.indexes(y, 401), -1);
            C.is("none was done", x.count(5), 0);
            C.is("50", x.indexes(y, 50), 100);
            C.is("it is so", x.indexes(y, 50), -2);
            C.is("400", x.indexes(y, 400), 50);
            C.is("100", x.indexes(y, 100), 400);
            C.is("three were done", x.count(5), 3);
            C.is("indexes(30)", x.indexes(30, 99), -1);
            C.is("indexes(-1)", x.indexes(-1, 99), -1);
        }
    }

    private static void sets() {
        C.says("Promise 39: CREDIT (what 0), LEAST (1) becomes v: what it was. -2: it is so; NONE: others");
        JoinedMonths x = new JoinedMonths();
        int[] first = {6, 12};
        int[] most = {24, 60};
        for (int what = 0; what < 2; what++) {
            C.is("it is so", x.sets(what, first[what]), -2);
            C.is("below 0", x.sets(what, -1), -1);
            C.is("beyond the most", x.sets(what, most[what] + 1), -1);
            C.is("0", x.sets(what, 0), first[what]);
            C.is("it is so", x.sets(what, 0), -2);
            C.is("the most", x.sets(what, most[what]), 0);
            C.is("it is so", x.sets(what, most[what]), -2);
            C.is("count()", x.count(1 + what), most[what]);
        }
        C.is("sets(2)", x.sets(2, 1), -1);
        C.is("sets(-1)", x.sets(-1, 1), -1);
        C.is("four were done", x.count(5), 4);
    }

    private static void keep() {
        C.says("Promise 43: kept under a number 0 .. 1: true. Refused: others");
        JoinedMonths x = new JoinedMonths();
        C.no("keep(-1)", x.keep(-1));
        C.no("keep(2)", x.keep(2));
        C.no("nothing is kept by that", x.again(0) || x.again(1));
        C.yes("keep(0) of nothing", x.keep(0));
        C.yes("keep(1) of nothing", x.keep(1));
        x.comes(0, 0, 0, 0, 1);
        C.yes("again(0): no SPANS", x.again(0));
        C.is("no SPANS", x.count(0), 0);
        C.yes("full", Edges.FULL.make().keep(0));
        JoinedMonths anew = Check.withSpans(1);
        anew.keep(0);
        anew.comes(0, 0, 0, 0, 1);
        anew.keep(1);
        anew.comes(0, 0, 0, 0, 1);
        anew.keep(0);
        C.yes("again(1)", anew.again(1));
        C.is("what was kept under 1", anew.count(0), 2);
        C.yes("again(0)", anew.again(0));
        C.is("what was kept last under 0", anew.count(0), 3);
        JoinedMonths undone = Check.withSpans(3);
        undone.keep(0);
        C.is("what can be undone stays with keep()", undone.count(5), 3);
        C.is("undo() behind keep()", undone.undo(), 2);
        C.is("it leaves what is kept", undone.again(0) ? undone.count(0) : -1, 3);
    }

    private static void again() {
        C.says("Promise 44: They are as they were kept under a number. Refused: nothing kept");
        JoinedMonths x = new JoinedMonths();
        for (int i : new int[] {0, 1, -1, 2, Integer.MIN_VALUE, Integer.MAX_VALUE}) {
            C.no("nothing kept under " + i, x.again(i));
        }
        x.keep(1);
        C.no("nothing kept under 0", x.again(0));
        C.yes("kept under 1", x.again(1));
        JoinedMonths y = new JoinedMonths();
        y.keep(0);
        C.no("nothing kept under 1", y.again(1));
        C.yes("kept under 0", y.again(0));
        C.yes("and once more", y.again(0));
        JoinedMonths full = Check.withSpans(20);
        full.keep(0);
        for (int k = 0; k < 20; k++) {
            full.goes(0);
        }
        C.yes("20 SPANS again", full.again(0));
        for (int k = 0; k < 20; k++) {
            C.is("PAY of SPAN " + k, full.span(k, 4), 100 + k);
        }
        JoinedMonths text = Check.withSpans(1);
        text.keep(0);
        text.own(0);
        Check.say(text, "k03");
        text.again(0);
        C.is("THE TEXT is not kept", text.day(), 1);
        JoinedMonths row = Check.withSpans(1);
        row.keep(0);
        row.own(0);
        row.again(0);
        C.is("the ROW is not kept", row.count(6), 4);
    }

    private static void againForgets() {
        C.says("Promise 41: (again() forgets them, if it is not refused.)");
        JoinedMonths x = Check.withSpans(8);
        x.keep(0);
        C.no("again(1)", x.again(1));
        C.is("refused, it forgets none", x.count(5), 8);
        C.yes("again(0)", x.again(0));
        C.is("it forgets all", x.count(5), 0);
        C.is("undo()", x.undo(), -1);
        C.is("8 SPANS", x.count(0), 8);
        x.comes(0, 0, 0, 0, 1);
        C.is("one is kept behind it", x.undo(), 0);
        C.is("8 SPANS", x.count(0), 8);
        C.is("no more", x.undo(), -1);
    }

    private static void againOfEach() {
        C.says("Promise 43: SPANS, LAWS, RANKS, INDEXES, CREDIT, LEAST are kept");
        for (int i = 0; i < 2; i++) {
            int under = i;
            Look.Maker kept = () -> {
                JoinedMonths x = Edges.SOME.make();
                x.keep(under);
                return x;
            };
            Look.Maker back = () -> {
                JoinedMonths x = kept.make();
                x.sheet(2, 20, 3, 9);
                x.goes(0);
                x.comes(3, 3, 3, 33, 3);
                for (int what = 0; what < 20; what++) {
                    x.becomes(what / 4, what % 4, 50 + what);
                }
                for (int y = 0; y < 30; y++) {
                    x.indexes(y, 60 + y);
                }
                Check.ranks(x, "vcws");
                x.sets(0, 23);
                x.sets(1, 59);
                x.again(under);
                return x;
            };
            java.util.List<Long> due = Look.state(kept.make());
            due.set(5, 0L);
            C.yes("all are as they were, kept under " + i, due.equals(Look.state(back.make())));
            C.yes("MONTHS, too", Look.months(kept).equals(Look.months(back)));
        }
    }

    private static void count() {
        C.says("Promise 45: NONE for another what");
        JoinedMonths x = Edges.FULL.make();
        int[] due = {20, 6, 12, 123, x.count(4), 8, 117, 80, 0};
        for (int what = 0; what < 9; what++) {
            C.is("count(" + what + ") of a full one", x.count(what), due[what]);
        }
        for (int what : new int[] {-1, 9, Integer.MIN_VALUE, Integer.MAX_VALUE}) {
            C.is("count(" + what + ")", x.count(what), -1);
        }
        JoinedMonths none = new JoinedMonths();
        int[] first = {0, 6, 12, 123, 0, 0, 0, 0, 0};
        for (int what = 0; what < 9; what++) {
            C.is("count(" + what + ") of an empty one", none.count(what), first[what]);
        }
    }

    private static void countRanks() {
        C.says("Promise 45: 3: RANKS (KINDS as digits of a number, the first highest)");
        String[] texts = {"wscv", "swcv", "cwsv", "vwsc", "vcsw"};
        int[] due = {123, 1023, 2013, 3012, 3210};
        for (int i = 0; i < texts.length; i++) {
            JoinedMonths x = new JoinedMonths();
            Check.ranks(x, texts[i]);
            C.is(texts[i], x.count(3), due[i]);
        }
    }

    private static void countUndo() {
        C.says("Promise 45: 5: what can be undone");
        JoinedMonths x = new JoinedMonths();
        for (int n = 1; n <= 12; n++) {
            x.becomes(0, 0, n);
            C.is("behind " + n, x.count(5), Math.min(8, n));
        }
        x.undo();
        C.is("one less", x.count(5), 7);
    }

    private static void countRow() {
        C.says("Promise 45: 6: numbers of the ROW");
        JoinedMonths x = Check.with("aw000059100bw066125200");
        Look.Act[] calls = {y -> y.own(0), y -> y.total(), y -> y.year(0), y -> y.gaps(), y -> y.doubles(), y -> y.pieces(),
            y -> y.theoretical(0), y -> y.paid(0), y -> y.at(0), y -> y.most(), y -> y.late(0, 0, 0, 0, 1),
            y -> y.without(0), y -> y.lawful(0, 0, 1), y -> y.settled(1, 1), y -> y.instead(0, 0, 0, 0, 0, 1),
            y -> y.worth(), y -> y.best(), y -> y.buys(0, 1, 1), y -> y.missing(0), y -> y.part(0, 359), y -> y.day(),
            y -> y.years(1, 1)};
        int[] due = {4, 3, 7, 3, 2, 6, 1, 1, 2, 2, 3, 3, 3, 3, 3, 2, 4, 1, 1, 2, 2, 2};
        for (int i = 0; i < calls.length; i++) {
            C.yes("call " + i + " is taken", calls[i].on(x) >= 0);
            C.is("numbers told by call " + i, x.count(6), due[i]);
        }
    }

    private static void countYears() {
        C.says("Promise 45: 8: YEARS of which INDEX is not 100");
        JoinedMonths x = new JoinedMonths();
        for (int y = 0; y < 30; y++) {
            C.is("so far", x.count(8), y);
            x.indexes(y, y % 2 == 0 ? 99 : 101);
        }
        C.is("all", x.count(8), 30);
        for (int y = 29; y >= 0; y--) {
            x.indexes(y, 100);
            C.is("so many are left", x.count(8), y);
        }
    }

    private static void row() {
        C.says("Promise 46: Number i of the ROW. NoSuchElementException: none such");
        JoinedMonths x = new JoinedMonths();
        C.throwsNone("an empty ROW", () -> x.row(0));
        C.throwsNone("an empty ROW", () -> x.row(-1));
        x.year(0);
        C.is("row(6)", x.row(6), 100);
        C.throwsNone("row(7)", () -> x.row(7));
        x.total();
        C.is("row(1), NONE", x.row(1), -1);
        C.is("row(2)", x.row(2), 0);
        C.throwsNone("row(3), of the ROW ahead of it", () -> x.row(3));
        C.throwsNone("row(-1)", () -> x.row(-1));
        x.gaps();
        C.throwsNone("an empty ROW again", () -> x.row(0));
        JoinedMonths full = Edges.FULL.make();
        C.is("row(116)", full.row(116), 223);
        C.throwsNone("row(117)", () -> full.row(117));
        for (int i : new int[] {Integer.MIN_VALUE, Integer.MAX_VALUE, 120, 1000}) {
            C.throwsNone("row(" + i + ")", () -> full.row(i));
        }
    }
}

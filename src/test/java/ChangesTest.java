/** Promises 34 to 42: comes, goes, lasts, becomes, indexes, sets, day, undo, years. */
public final class ChangesTest {
    private static final Check C = new Check("ChangesTest");

    public static void main(String[] args) {
        comesAndGoes();
        lasts();
        becomes();
        indexesAndSets();
        day();
        dayFaults();
        dayIsOne();
        undo();
        undoEachCall();
        years();
        C.end();
    }

    private static void comesAndGoes() {
        JoinedMonths x = new JoinedMonths();
        x.total();
        C.is("comes()", x.comes(4, 3, 0, 359, 999), 1);
        C.is("comes()", x.comes(0, 0, 359, 359, 1), 2);
        for (int k = 3; k <= 20; k++) {
            C.is("comes()", x.comes(1, 2, k, k + 1, k), k);
        }
        C.is("with 20", x.comes(0, 0, 0, 0, 1), -3);
        C.is("20", x.count(0), 20);
        C.is("goes(20)", x.goes(20), -1);
        C.is("goes(-1)", x.goes(-1), -1);
        C.is("goes(0)", x.goes(0), 19);
        C.is("those behind it", x.span(0, 2), 359);
        C.is("goes(18)", x.goes(18), 18);
        C.is("the last one", x.span(17, 4), 19);
        C.is("goes(5)", x.goes(5), 17);
        C.is("ahead of it", x.span(4, 4), 6);
        C.is("behind it", x.span(5, 4), 8);
        C.is("the ROW stays", x.count(6), 3);
    }

    private static void lasts() {
        JoinedMonths x = Check.with("aw010019100bw020029100");
        x.total();
        C.is("lasts()", x.lasts(1, 0, 359), 360);
        C.is("MONTHS", x.total(), 360);
        C.is("it does", x.lasts(1, 0, 359), -2);
        C.is("another first", x.lasts(1, 1, 359), 359);
        C.is("another last", x.lasts(1, 1, 1), 1);
        C.is("the other stays", x.span(0, 2), 10);
        int[][] wrong = {{2, 0, 1}, {-1, 0, 1}, {0, -1, 5}, {0, 0, 360}, {0, 5, 4}, {1, 360, 360}};
        for (int[] w : wrong) {
            C.is("lasts()", x.lasts(w[0], w[1], w[2]), -1);
        }
        C.is("kept", x.count(5), 4);
        C.is("the ROW stays", x.count(6), 3);
    }

    private static void becomes() {
        JoinedMonths x = new JoinedMonths();
        int[] was = {60, 10, 20, 300};
        int[] least = {1, 0, 0, 0};
        int[] most = {240, 99, 99, 359};
        for (int what = 0; what < 4; what++) {
            C.is("as it is", x.becomes(3, what, was[what]), -2);
            C.is("the least", x.becomes(3, what, least[what]), was[what]);
            C.is("the most", x.becomes(3, what, most[what]), least[what]);
            C.is("as law() tells", x.law(3, what), most[what]);
            C.is("below", x.becomes(3, what, least[what] - 1), -1);
            C.is("above", x.becomes(3, what, most[what] + 1), -1);
            C.is("of another COUNTRY", x.law(4, what), was[what]);
        }
        C.is("kept", x.count(5), 8);
    }

    private static void indexesAndSets() {
        JoinedMonths x = Check.with("aw000359100");
        C.is("indexes()", x.indexes(29, 50), 100);
        C.is("indexes()", x.indexes(29, 400), 50);
        C.is("it is so", x.indexes(29, 400), -2);
        C.is("PAY", x.month(348, 2), 400);
        C.is("PAY ahead of it", x.month(347, 2), 100);
        int[][] wrong = {{-1, 100}, {30, 100}, {0, 49}, {0, 401}};
        for (int[] w : wrong) {
            C.is("indexes()", x.indexes(w[0], w[1]), -1);
        }
        C.is("one YEAR", x.count(8), 1);
        C.is("CREDIT", x.sets(0, 24), 6);
        C.is("CREDIT", x.sets(0, 0), 24);
        C.is("CREDIT is so", x.sets(0, 0), -2);
        C.is("LEAST", x.sets(1, 60), 12);
        C.is("LEAST", x.sets(1, 0), 60);
        C.is("LEAST is so", x.sets(1, 0), -2);
        int[][] others = {{0, 25}, {0, -1}, {1, 61}, {1, -1}, {2, 1}, {-1, 1}};
        for (int[] w : others) {
            C.is("sets()", x.sets(w[0], w[1]), -1);
        }
        C.is("CREDIT", x.count(1), 0);
        C.is("LEAST", x.count(2), 0);
    }

    private static int day(JoinedMonths x, String text) {
        Check.say(x, text);
        int answer = x.day();
        C.is("THE TEXT is emptied by " + text, x.count(7), 0);
        return answer;
    }

    private static void day() {
        JoinedMonths x = new JoinedMonths();
        C.is("an empty DAY", day(x, ""), 0);
        C.row("an empty DAY", x, 0, 0);
        C.is("an empty DAY is not kept", x.count(5), 0);
        C.is("all ACTS", day(x, "+aw000059100+bv100101001m01100111-00ra0001k00l00i29400+cs000000999"), 9);
        C.row("all ACTS", x, 0, x.count(4));
        C.is("COUNTRY", x.span(0, 0), 1);
        C.is("lasts", x.span(0, 3), 111);
        C.is("comes", x.span(1, 4), 999);
        C.is("becomes", x.law(0, 0), 1);
        C.is("CREDIT", x.count(1), 0);
        C.is("LEAST", x.count(2), 0);
        x.year(29);
        C.is("INDEX", x.row(6), 400);
        C.is("kept as one", x.count(5), 1);
        String[] acts = {"+aw360000001", "+aw005004001", "+aw000000000", "-02", "m02000001", "m00100111", "m00001000",
            "ra0001", "ra0241", "re1100", "k25", "l61", "l00", "i30100", "i00100", "i00049", "i00401"};
        for (String act : acts) {
            JoinedMonths y = new JoinedMonths();
            day(y, "+bv100111001+cs000000999ra0001k00l00");
            C.is(act + " can't be", day(y, act + "k07"), 0);
            C.row(act + " can't be", y, 1, y.count(4));
            C.is(act + " stops", day(y, "k07" + act + "k08"), 1);
            C.row(act + " stops", y, 1, y.count(4));
            C.is("CREDIT", y.count(1), 7);
        }
        C.is("CREDIT is so", day(x, "k00k07"), 0);
        C.row("CREDIT is so", x, 1, x.count(4));
        C.is("the LAW of e", day(x, "re1099re3000"), 2);
        C.is("the LAW of e", x.law(4, 1), 99);
        C.is("the LAW of e", x.law(4, 3), 0);
        JoinedMonths y = new JoinedMonths();
        C.is("ALL then", day(y, "+aw200299100-01"), 1);
        C.row("ALL then", y, 1, 1020);
    }

    private static void dayFaults() {
        JoinedMonths x = Check.with("aw000059100");
        x.total();
        String[] texts = {"x", "+", "+f", "+ax", "+aw00", "+aw00x", "+aw000000", "+aw00000010", "-", "-0", "-0x", "m",
            "m00", "m0000", "m00000", "m0000000", "m00000x", "r", "rf", "ra", "ra4", "ra0", "ra000", "ra000x", "k", "k1",
            "kx", "l", "l1", "lx", "i", "i0", "i00", "i0040", "i00x", "k01x", "k01k02k03 ", "k99-9", "-99-9"};
        int[] at = {0, 1, 1, 2, 5, 5, 9, 11, 1, 2, 2, 1, 3, 5, 6, 8, 6, 1, 1, 2, 2, 3, 5, 5, 1, 2, 1, 1, 2, 1, 1, 2, 3, 5,
            3, 3, 9, 5, 5};
        for (int i = 0; i < texts.length; i++) {
            C.is("day() of " + texts[i], day(x, texts[i]), -1 - at[i]);
            C.is("nothing is done", x.count(1), 6);
            C.is("nothing is done", x.count(0), 1);
        }
        C.is("nothing is kept", x.count(5), 1);
        C.is("the ROW stays", x.count(6), 3);
    }

    private static void dayIsOne() {
        JoinedMonths x = new JoinedMonths();
        for (int k = 0; k < 19; k++) {
            x.comes(0, 0, k, k, 1);
        }
        C.is("till there are 20", day(x, "+aw100100001+aw101101001-00"), 1);
        C.row("till there are 20", x, 1, 0);
        C.is("20", x.count(0), 20);
        C.is("undone as one", x.undo(), 7);
        C.is("19", x.count(0), 19);
        C.is("one goes, one comes", day(x, "-00+aw100100001+aw101101001+aw102102001"), 3);
        C.is("20", x.count(0), 20);
        C.is("undone as one", x.undo(), 7);
        C.is("19", x.count(0), 19);
    }

    private static void undo() {
        JoinedMonths x = new JoinedMonths();
        x.total();
        C.is("none", x.undo(), -1);
        for (int v = 1; v <= 10; v++) {
            x.becomes(0, 0, v);
            C.is("what can be undone", x.count(5), Math.min(8, v));
        }
        for (int left = 7; left >= 0; left--) {
            C.is("undo()", x.undo(), left);
            C.is("what it was", x.law(0, 0), left + 2);
        }
        C.is("none is left", x.undo(), -1);
        C.is("2 stays", x.law(0, 0), 2);
        x.becomes(0, 0, 99);
        C.is("kept again", x.undo(), 0);
        C.is("2 again", x.law(0, 0), 2);
        C.is("the ROW stays", x.count(6), 3);
        x.becomes(0, 0, 2);
        x.becomes(0, 0, 0);
        x.goes(3);
        x.comes(9, 9, 9, 9, 9);
        C.is("refused ones are not kept", x.count(5), 0);
        x.keep(0);
        x.comes(0, 0, 0, 0, 1);
        C.no("again(1) is refused", x.again(1));
        C.is("it forgets nothing then", x.count(5), 1);
        C.yes("again(0)", x.again(0));
        C.is("forgotten", x.undo(), -1);
    }

    private static void undoEachCall() {
        JoinedMonths x = Check.with("aw000059100bw070129100");
        int all = x.count(4);
        for (int which = 0; which < 10; which++) {
            int before = x.count(5);
            change(x, which);
            C.is("kept " + which, x.count(5), before + 1);
            C.is("undone " + which, x.undo(), before);
            C.is("ALL " + which, x.count(4), all);
            C.is("SPANS " + which, x.count(0), 2);
            C.is("RANKS " + which, x.count(3), 123);
            C.is("INDEXES " + which, x.count(8), 0);
            C.is("CREDIT " + which, x.count(1), 6);
            C.is("LEAST " + which, x.count(2), 12);
            C.is("LAW " + which, x.law(2, 2), 20);
            C.is("SPAN " + which, x.span(1, 3), 129);
        }
    }

    private static void change(JoinedMonths x, int which) {
        Check.say(x, which == 0 ? "cw000359999" : which == 1 ? "c0019999000" : which == 2 ? "vcsw" : "-00-00ra0001");
        switch (which) {
            case 0 -> x.spans();
            case 1 -> x.laws();
            case 2 -> x.ranks();
            case 3 -> x.comes(2, 0, 0, 359, 999);
            case 4 -> x.goes(0);
            case 5 -> x.lasts(1, 70, 130);
            case 6 -> x.becomes(2, 2, 21);
            case 7 -> x.indexes(0, 101);
            case 8 -> x.sets(0, 10);
            default -> x.day();
        }
    }

    private static void years() {
        JoinedMonths x = new JoinedMonths();
        x.total();
        C.is("years(1, 0)", x.years(1, 0), -1);
        C.is("years(1, 31)", x.years(1, 31), -1);
        C.is("years(1, -1)", x.years(1, -1), -1);
        C.is("the ROW stays", x.count(6), 3);
        for (int seed : new int[] {1, -1, 0, Integer.MIN_VALUE, 987654321}) {
            for (int n : new int[] {1, 7, 20, 30}) {
                drawn(seed, n);
            }
        }
        twoYears();
        forgotten();
        sheetBehindYears();
    }

    private static void twoYears() {
        JoinedMonths x = Check.with("aw000009100bv010019200");
        int first = x.years(17, 30);
        C.is("a second one begins anew", x.years(17, 30), first);
        JoinedMonths full = Check.with("aw000059100");
        while (full.count(0) < 20) {
            full.comes(1, 1, 0, 359, 1);
        }
        drawnFrom(full, 23, 30);
        drawnFrom(full, 23, 1);
    }

    /** Each call behind years() answers as it would without it, and does the same. */
    private static void forgotten() {
        Look.Act[] behind = {x -> x.count(0), x -> x.comes(0, 0, 0, 9, 7), x -> x.undo(), x -> x.again(0) ? 1 : 0,
            x -> x.keep(1) ? 1 : 0, x -> x.sheet(2, 20, 7, 0), x -> x.goes(0), x -> x.late(4, 2, 100, 359, 999),
            x -> x.gaps(), x -> x.total(), x -> x.sign(0x30303030)};
        for (int spans = 0; spans <= 20; spans += 5) {
            int there = spans;
            Look.Maker without = () -> {
                JoinedMonths x = Check.withSpans(there);
                x.keep(0);
                x.comes(1, 1, 5, 50, 55);
                x.sign(0x61773030);
                return x;
            };
            Look.Maker with = Look.then(without, x -> x.years(there, 30));
            for (int i = 0; i < behind.length; i++) {
                C.is("call " + i + " behind it", behind[i].on(with.make()), behind[i].on(without.make()));
                Look.Maker withThen = Look.then(with, behind[i]);
                Look.Maker withoutThen = Look.then(without, behind[i]);
                C.yes("what call " + i + " does", Look.butRow(withThen).equals(Look.butRow(withoutThen)));
                C.yes("MONTHS behind call " + i, Look.months(withThen).equals(Look.months(withoutThen)));
            }
        }
    }

    private static void sheetBehindYears() {
        JoinedMonths x = new JoinedMonths();
        x.years(0, 1);
        C.is("no SPAN behind it", x.sheet(0, 1, 0, 0), 0);
        C.is("nothing can be undone", x.undo(), -1);
        x.comes(0, 0, 0, 59, 100);
        x.years(0, 30);
        C.is("one SPAN behind it", x.sheet(2, 20, 7, 0), 1);
    }

    private static void drawn(int seed, int n) {
        drawnFrom(Check.with("aw000009100bv010019200"), seed, n);
    }

    /** What years() tells is what the same comes() by hand would be; x is behind it as it was. */
    private static void drawnFrom(JoinedMonths x, int seed, int n) {
        JoinedMonths y = new JoinedMonths();
        JoinedMonths as = new JoinedMonths();
        for (int k = 0; k < x.count(0); k++) {
            y.comes(x.span(k, 0), x.span(k, 1), x.span(k, 2), x.span(k, 3), x.span(k, 4));
            as.comes(x.span(k, 0), x.span(k, 1), x.span(k, 2), x.span(k, 3), x.span(k, 4));
        }
        long r = seed;
        int[] of = {5, 4, 360, 40, 300};
        int[] v = new int[5];
        for (int i = 0; i < n; i++) {
            for (int j = 0; j < 5; j++) {
                r = (r * 1103515245L + 12345L) & 0xffffffffL;
                v[j] = (int) (r / 65536 % of[j]);
            }
            if (y.count(0) == 20) {
                y.goes(0);
            }
            y.comes(v[0], v[1], v[2], Math.min(359, v[2] + v[3]), v[4] + 1);
        }
        C.is("ALL then", x.years(seed, n), y.count(4));
        C.row("TOTAL, GAPS", x, y.total(), y.gaps());
        C.is("SPANS as ahead of it", x.count(0), as.count(0));
        C.is("ALL as ahead of it", x.count(4), as.count(4));
    }
}

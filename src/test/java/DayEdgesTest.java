/** Promises 40 to 42 at their edges, sentence by sentence: day, undo, years. */
public final class DayEdgesTest {
    private static final Check C = new Check("DayEdgesTest");
    /** Each ACT once, all of which can be done on an object with at least one SPAN and the LAWS of the beginning. */
    private static final String[] ACTS = {"+bs012345678", "-00", "m00100199", "rb2033", "k07", "l13", "i29399"};

    public static void main(String[] args) {
        dayActs();
        dayLaws();
        dayEmpty();
        dayFull();
        dayEndsEarly();
        dayWrongSigns();
        dayReadsWhatCantBe();
        dayStops();
        dayStopsAtFirst();
        dayFaultBehindAStop();
        dayOneByOne();
        dayRow();
        undoNone();
        undoEight();
        undoOnlyWhatWasDone();
        undoDay();
        undoAndSheet();
        yearsDraws();
        yearsLastMonth();
        yearsWithTwenty();
        yearsForgotten();
        C.end();
    }

    private static JoinedMonths one() {
        return Check.with("aw010019100");
    }

    private static void dayActs() {
        C.says("Promise 40: +, a SPAN; -, two digits; m, two, three, three; r, a letter, a digit, three; k, l, two; i, two, three");
        JoinedMonths x = one();
        C.is("+", Check.day(x, ACTS[0]), 1);
        int[] due = {1, 1, 12, 345, 678};
        for (int what = 0; what < 5; what++) {
            C.is("+, what " + what, x.span(1, what), due[what]);
        }
        C.is("m", Check.day(x, "m01100199"), 1);
        C.is("m, first", x.span(1, 2), 100);
        C.is("m, last", x.span(1, 3), 199);
        C.is("-", Check.day(x, "-00"), 1);
        C.is("-, the other one is left", x.span(0, 0), 1);
        C.is("k", Check.day(x, "k07"), 1);
        C.is("k: CREDIT", x.count(1), 7);
        C.is("l", Check.day(x, "l13"), 1);
        C.is("l: LEAST", x.count(2), 13);
        C.is("i", Check.day(x, "i29399"), 1);
        x.year(29);
        C.is("i: INDEX", x.row(6), 399);
        C.is("of one YEAR", x.count(8), 1);
        JoinedMonths full = Check.withSpans(20);
        C.is("two digits", Check.day(full, "m19000359-19"), 2);
        C.is("two digits", full.count(0), 19);
        JoinedMonths edges = new JoinedMonths();
        C.is("the least of each", Check.day(edges, "k00l00i00050+aw000000001"), 4);
        C.is("the most of each", Check.day(edges, "k24l60i29400+ev359359999"), 4);
        C.is("CREDIT", edges.count(1), 24);
        C.is("LEAST", edges.count(2), 60);
    }

    private static void dayLaws() {
        C.says("Promise 40: r, a letter a .. e, a digit 0 .. 3, three digits (becomes())");
        for (int i = 0; i < 20; i++) {
            JoinedMonths x = new JoinedMonths();
            String act = "r" + "abcde".charAt(i / 4) + i % 4 + "077";
            C.is(act, Check.day(x, act), 1);
            for (int j = 0; j < 20; j++) {
                C.is(act + ", law " + j, x.law(j / 4, j % 4), j == i ? 77 : new int[] {60, 10, 20, 300}[j % 4]);
            }
        }
        JoinedMonths x = new JoinedMonths();
        C.is("the least", Check.day(x, "ra0001ra1000ra2000ra3000"), 4);
        C.is("the most", Check.day(x, "ra0240ra1099ra2099ra3359"), 4);
    }

    private static void dayEmpty() {
        C.says("Promise 40: THE TEXT tells A DAY (an empty one: nothing)");
        JoinedMonths x = Check.with("aw000059100");
        C.is("nothing", x.day(), 0);
        C.row("nothing", x, 0, 612);
        C.is("nothing is kept", x.count(5), 1);
        JoinedMonths none = new JoinedMonths();
        C.is("nothing", none.day(), 0);
        C.row("nothing", none, 0, 0);
        C.is("nothing can be undone", none.undo(), -1);
    }

    private static void dayFull() {
        C.says("Promise 40: ACTS one behind another, of THE TEXT of 80 signs");
        JoinedMonths x = new JoinedMonths();
        C.is("26 ACTS are 78 signs", Check.day(x, Edges.acts(26)), 26);
        C.row("26 ACTS", x, 0, 0);
        C.is("CREDIT", x.count(1), 2);
        C.is("as one", x.undo(), 0);
        C.is("CREDIT", x.count(1), 6);
        C.is("79 signs end too early", Check.day(x, Edges.acts(26) + "k"), -80);
        C.is("80 signs end too early", Check.day(x, Edges.acts(26) + "k0"), -81);
        C.is("a wrong sign at the end of 80", Check.day(x, Edges.acts(26) + "kx"), -80);
        C.is("nothing is done", x.count(1), 6);
        C.is("THE TEXT is empty", x.count(7), 0);
    }

    private static void fault(String text, int at) {
        JoinedMonths x = one();
        x.total();
        C.is("day() of " + text, Check.day(x, text), -1 - at);
        C.is(text + ": CREDIT", x.count(1), 6);
        C.is(text + ": LEAST", x.count(2), 12);
        C.is(text + ": SPANS", x.count(0), 1);
        C.is(text + ": the SPAN", x.span(0, 2), 10);
        C.is(text + ": the LAW", x.law(1, 2), 20);
        C.is(text + ": INDEXES", x.count(8), 0);
        C.is(text + ": nothing more is kept", x.count(5), 1);
        C.is(text + ": THE TEXT is empty", x.count(7), 0);
        C.row(text + ": the ROW stays", x, 100, -1, 0);
    }

    private static void dayEndsEarly() {
        C.says("Promise 40: its end, if it ends too early; nothing is done then");
        for (String act : ACTS) {
            for (int n = 1; n < act.length(); n++) {
                fault(act.substring(0, n), n);
                fault("k05" + act.substring(0, n), 3 + n);
            }
        }
    }

    private static void dayWrongSigns() {
        C.says("Promise 40: -1 - p: the sign at p can't stand there; nothing is done then");
        for (String act : ACTS) {
            for (int at = 0; at < act.length(); at++) {
                for (char wrong : new char[] {'/', ':', 'x', ' ', 0, 255, '`', 'f'}) {
                    String text = act.substring(0, at) + wrong + act.substring(at + 1);
                    fault(text, at);
                    fault("l05" + text, 3 + at);
                }
            }
        }
        for (char first : new char[] {'*', ',', '.', 'n', 'q', 's', 'j', 'h', 'K', '0', 'a', 'w'}) {
            fault(first + "00", 0);
        }
        fault("rb4033", 2);
        fault("rb/033", 2);
        fault("r0", 1);
        fault("k07 l13", 3);
        fault("k077", 3);
    }

    private static void dayReadsWhatCantBe() {
        C.says("Promise 40: (a number that can't be is read)");
        String[] acts = {"+aw360360001", "+aw999999001", "+aw005004001", "+aw000360001", "+aw000000000", "-01", "-99",
            "m01000001", "m99000001", "m00360360", "m00005004", "m00000999", "ra0000", "ra0241", "ra0999", "ra1100", "ra2100",
            "ra3360", "k25", "k99", "l61", "l99", "i30101", "i99101", "i00049", "i00401", "i00000", "i00999"};
        for (String act : acts) {
            JoinedMonths x = one();
            C.is(act + " can't be", Check.day(x, act), 0);
            C.row(act + " can't be", x, 1, 0);
            C.is(act + ": nothing is kept", x.count(5), 1);
            C.is(act + " behind one that can be", Check.day(x, "k05" + act), 1);
            C.row(act + " behind one that can be", x, 1, 0);
            C.is(act + ": one is kept", x.count(5), 2);
        }
    }

    private static void dayStops() {
        C.says("Promise 40: they are done one by one, till one can't be (it answers below 0): how many were done");
        String[] so = {"m00010019", "ra0060", "ra1010", "ra2020", "ra3300", "k06", "l12", "i00100"};
        for (String act : so) {
            JoinedMonths x = one();
            C.is(act + " is so", Check.day(x, "k05l11" + act.replace("k06", "k05").replace("l12", "l11") + "i05222"), 2);
            C.row(act + " is so", x, 1, 0);
            C.is("CREDIT", x.count(1), 5);
            C.is("LEAST", x.count(2), 11);
            C.is("nothing behind it", x.count(8), 0);
            C.is("as one", x.undo(), 1);
            C.is("CREDIT", x.count(1), 6);
            C.is("LEAST", x.count(2), 12);
        }
        JoinedMonths full = Check.withSpans(19);
        C.is("there are 20", Check.day(full, "+aw000000001+aw000000001k05"), 1);
        C.row("there are 20", full, 1, 0);
        C.is("20", full.count(0), 20);
        C.is("CREDIT stays", full.count(1), 6);
        C.is("with 20", Check.day(full, "+aw000000001"), 0);
        C.row("with 20", full, 1, 0);
        JoinedMonths none = new JoinedMonths();
        C.is("none to go", Check.day(none, "-00"), 0);
        C.is("none to last", Check.day(none, "m00000000"), 0);
    }

    private static void dayStopsAtFirst() {
        C.says("Promise 40: how many were done (none); nothing changes then");
        for (String act : new String[] {"-05", "k06", "l99", "i00100", "+aw360000001"}) {
            Look.Maker made = Edges.SOME;
            Look.Maker acted = Look.then(made, x -> Check.day(x, act.equals("k06") ? "k05k01" : act + "k01"));
            java.util.List<Long> due = Look.behind(made);
            C.yes(act + " leaves all but THE TEXT and the ROW", due.equals(Look.behind(acted)));
            JoinedMonths x = acted.make();
            C.row(act, x, 1, x.count(4));
            C.is(act + ": THE TEXT is empty", x.count(7), 0);
        }
    }

    private static void dayFaultBehindAStop() {
        C.says("Promise 40: -1 - p: nothing is done then (also where an ACT ahead of it could not be)");
        fault("k05k99x", 6);
        fault("k99k05l1", 8);
        fault("-99-9", 5);
        fault("+aw999999000+", 13);
    }

    private static void dayOneByOne() {
        C.says("Promise 40: they are done one by one");
        JoinedMonths x = new JoinedMonths();
        C.is("each finds what is done ahead of it", Check.day(x, "+aw000009100+bw020029200-00m00000005m00000006-00"), 6);
        C.is("no SPANS", x.count(0), 0);
        C.is("k05 is so only once", Check.day(x, "k05k06k05k05k06"), 3);
        C.is("CREDIT", x.count(1), 5);
        JoinedMonths full = Check.withSpans(20);
        C.is("one goes ahead of one that comes", Check.day(full, "-19+aw000000001-00+aw000000002"), 4);
        C.is("20", full.count(0), 20);
        C.is("the last", full.span(19, 4), 2);
    }

    private static void dayRow() {
        C.says("Promise 40: the ROW: 1 if one could not be, else 0, ALL then");
        JoinedMonths x = new JoinedMonths();
        C.is("all", Check.day(x, "+aw000059100"), 1);
        C.row("all", x, 0, 612);
        C.is("not all", Check.day(x, "ra1011ra1011"), 1);
        C.row("not all", x, 1, 672);
        C.is("none", Check.day(x, "ra1011"), 0);
        C.row("none", x, 1, 672);
    }

    private static void undoNone() {
        C.says("Promise 41: Refused: none");
        JoinedMonths x = new JoinedMonths();
        C.is("on a new object", x.undo(), -1);
        C.is("once more", x.undo(), -1);
        x.comes(0, 0, 0, 0, 1);
        C.is("one", x.undo(), 0);
        C.is("none is left", x.undo(), -1);
        C.is("no SPANS", x.count(0), 0);
        C.is("none", x.count(5), 0);
    }

    private static void undoEight() {
        C.says("Promise 41: of 8 that are kept, the latest ones: how many are left that can be");
        for (int changes = 1; changes <= 20; changes++) {
            JoinedMonths x = new JoinedMonths();
            for (int v = 1; v <= changes; v++) {
                C.is("becomes()", x.becomes(0, 1, 20 + v), v == 1 ? 10 : 19 + v);
            }
            int left = Math.min(8, changes);
            C.is("what can be undone", x.count(5), left);
            for (int n = 1; n <= Math.min(8, changes); n++) {
                C.is("left", x.undo(), left - n);
                C.is("FLAT", x.law(0, 1), n == changes ? 10 : 20 + changes - n);
            }
            C.is("none is left", x.undo(), -1);
            C.is("FLAT", x.law(0, 1), changes <= 8 ? 10 : 20 + changes - 8);
        }
        JoinedMonths x = Check.withSpans(8);
        x.undo();
        x.undo();
        x.comes(0, 0, 0, 0, 777);
        C.is("7 behind two undone and one done", x.count(5), 7);
        C.is("undone", x.undo(), 6);
        C.is("6 SPANS", x.count(0), 6);
        C.is("undone", x.undo(), 5);
        C.is("5 SPANS", x.count(0), 5);
    }

    private static void undoOnlyWhatWasDone() {
        C.says("Promise 41: such as were done");
        JoinedMonths x = Check.with("aw010019100");
        Look.Act[] refused = {y -> Check.spans(y, "x"), y -> Check.laws(y, "x"), y -> Check.ranks(y, "x"),
            y -> y.comes(5, 0, 0, 0, 1), y -> y.goes(1), y -> y.lasts(0, 10, 19), y -> y.lasts(1, 0, 0),
            y -> y.becomes(0, 0, 60), y -> y.becomes(0, 0, 0), y -> y.indexes(0, 100), y -> y.indexes(0, 0),
            y -> y.sets(0, 6), y -> y.sets(0, 25), y -> Check.day(y, "x"), y -> Check.day(y, "k06"), y -> Check.day(y, ""),
            y -> y.sheet(2, 1, 7, 0), y -> y.years(1, 30), y -> y.keep(0) ? 1 : 0, y -> y.late(0, 0, 0, 0, 1),
            y -> y.buys(0, 1, 1), y -> y.worth(), y -> y.best(), y -> y.again(1) ? 1 : 0};
        for (int i = 0; i < refused.length; i++) {
            refused[i].on(x);
            C.is("call " + i, x.count(5), 1);
        }
        Look.Act[] done = {y -> Check.spans(y, "aw000000001"), y -> Check.laws(y, "a0010000000"),
            y -> Check.ranks(y, "vcsw"), y -> y.comes(0, 0, 0, 0, 1), y -> y.goes(0), y -> y.lasts(0, 1, 2),
            y -> y.becomes(0, 0, 2), y -> y.indexes(0, 99), y -> y.sets(0, 7), y -> y.sets(1, 7),
            y -> Check.day(y, "k08")};
        for (int i = 0; i < done.length; i++) {
            JoinedMonths y = Check.with("aw010019100");
            java.util.List<Long> before = Look.state(y);
            done[i].on(y);
            C.is("change " + i + " is kept", y.count(5), 2);
            C.is("change " + i + " is undone", y.undo(), 1);
            C.yes("all is as it was ahead of change " + i, before.equals(Look.state(y)));
        }
    }

    private static void undoDay() {
        C.says("Promise 41: day() of which one ACT was done, as one");
        JoinedMonths x = new JoinedMonths();
        Check.day(x, "k01k02k03l05");
        C.is("as one", x.count(5), 1);
        Check.day(x, "k09k09k08");
        C.is("of which one was done", x.count(5), 2);
        Check.day(x, "k09");
        C.is("of which none was done", x.count(5), 2);
        C.is("undone", x.undo(), 1);
        C.is("CREDIT", x.count(1), 3);
        C.is("undone", x.undo(), 0);
        C.is("CREDIT", x.count(1), 6);
        C.is("LEAST", x.count(2), 12);
    }

    private static void undoAndSheet() {
        C.says("Promise 41: the latest one is undone, where a sheet() came behind it");
        JoinedMonths x = Check.with("aw010019100");
        x.comes(1, 1, 20, 29, 200);
        x.sheet(2, 2, 300, 1);
        C.is("undone", x.undo(), 1);
        C.is("the SPAN that had come is gone", x.count(0), 1);
        C.is("undone", x.undo(), 0);
        C.is("and the first one", x.count(0), 0);
    }

    /** What the DRAWS bring, by hand and by longs, on an object with so many SPANS. */
    private static JoinedMonths drawn(JoinedMonths y, int seed, int n) {
        long r = seed;
        int[] of = {5, 4, 360, 40, 300};
        int[] v = new int[5];
        for (int i = 0; i < n; i++) {
            for (int j = 0; j < 5; j++) {
                r = r * 1103515245L + 12345L & 0xffffffffL;
                v[j] = (int) ((r >> 16) % of[j]);
            }
            if (y.count(0) == 20) {
                y.goes(0);
            }
            y.comes(v[0], v[1], v[2], Math.min(359, v[2] + v[3]), v[4] + 1);
        }
        return y;
    }

    private static void yearsDraws() {
        C.says("Promise 42: R = R times 1103515245 + 12345 (as ints; R is seed at first), (R without sign, by 65536) % n");
        int[] seeds = {0, 1, -1, 2, 12345, -12345, 1 << 16, 1 << 31, Integer.MAX_VALUE, 0x40000000, -1103515245};
        for (int seed : seeds) {
            for (int n : new int[] {1, 2, 3, 10, 29, 30}) {
                JoinedMonths x = new JoinedMonths();
                x.becomes(0, 0, 1);
                x.sets(1, 0);
                JoinedMonths y = new JoinedMonths();
                y.becomes(0, 0, 1);
                y.sets(1, 0);
                drawn(y, seed, n);
                String what = "years(" + seed + ", " + n + ")";
                C.is(what, x.years(seed, n), y.count(4));
                int total = y.total();
                C.row(what, x, total, y.gaps());
            }
        }
    }

    private static void yearsLastMonth() {
        C.says("Promise 42: the last MONTH is 359 at most");
        int found = 0;
        for (int seed = 0; seed < 3000; seed++) {
            JoinedMonths y = drawn(new JoinedMonths(), seed, 1);
            if (y.span(0, 3) == 359 && found < 20) {
                found++;
                C.is("years(" + seed + ", 1)", new JoinedMonths().years(seed, 1), 0);
                JoinedMonths x = new JoinedMonths();
                x.years(seed, 1);
                C.row("years(" + seed + ", 1)", x, 360 - y.span(0, 2), 0);
            }
        }
        C.is("such seeds", found, 20);
    }

    private static void yearsWithTwenty() {
        C.says("Promise 42: if there are 20, SPAN 0 goes ahead of it");
        for (int there : new int[] {0, 1, 18, 19, 20}) {
            for (int n : new int[] {1, 2, 19, 20, 21, 30}) {
                JoinedMonths x = Check.withSpans(there);
                JoinedMonths y = drawn(Check.withSpans(there), 77, n);
                C.is("with " + there + ", n " + n, x.years(77, n), y.count(4));
                int total = y.total();
                C.row("with " + there + ", n " + n, x, total, y.gaps());
                C.is(there + " are there behind it", x.count(0), there);
            }
        }
        JoinedMonths all = Check.with("aw000359100");
        all.comes(1, 3, 0, 359, 1);
        while (all.count(0) < 20) {
            all.comes(2, 3, 5, 5, 1);
        }
        all.years(3, 1);
        C.is("without SPAN 0 SPAN 1 covers all", all.row(0), 360);
        all.years(3, 2);
        C.yes("without SPAN 1 not", all.row(0) < 360);
    }

    private static void yearsForgotten() {
        C.says("Promise 42: (it is forgotten)");
        for (Look.Maker maker : java.util.List.of(Edges.EMPTY, Edges.SOME, Edges.FULL)) {
            for (int n : new int[] {1, 30}) {
                Look.Maker behind = Look.then(maker, x -> x.years(5, n));
                C.yes("all but the ROW is as it was", Look.butRow(maker).equals(Look.butRow(behind)));
            }
        }
        JoinedMonths x = new JoinedMonths();
        int first = x.years(9, 30);
        C.is("it begins anew each time", x.years(9, 30), first);
    }
}

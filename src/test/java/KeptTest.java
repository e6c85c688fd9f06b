/** Promises 43 to 46: keep, again, count, row. */
public final class KeptTest {
    private static final Check C = new Check("KeptTest");

    public static void main(String[] args) {
        keepAndAgain();
        count();
        row();
        C.end();
    }

    private static void keepAndAgain() {
        JoinedMonths x = Check.with("aw000059100");
        x.total();
        for (int i : new int[] {-1, 2, Integer.MIN_VALUE, Integer.MAX_VALUE}) {
            C.no("keep(" + i + ")", x.keep(i));
            C.no("again(" + i + ")", x.again(i));
        }
        C.no("nothing kept", x.again(0));
        C.is("nothing is forgotten", x.count(5), 1);
        C.yes("keep(1)", x.keep(1));
        C.no("nothing kept under 0", x.again(0));
        C.is("keep() forgets nothing", x.count(5), 1);
        int all = x.count(4);
        Check.say(x, "+bs010020999ra0100k20l40i05399");
        x.day();
        Check.say(x, "svcw");
        x.ranks();
        x.keep(0);
        int allOf0 = x.count(4);
        Check.say(x, "ab");
        C.yes("again(1)", x.again(1));
        C.is("forgotten", x.count(5), 0);
        C.is("THE TEXT stays", x.count(7), 2);
        state(x, 1, 6, 12, 123, all, 0, 60);
        C.yes("again(0)", x.again(0));
        state(x, 2, 20, 40, 1320, allOf0, 1, 100);
        x.sheet(2, 2, 5, 0);
        C.yes("again(1), once more", x.again(1));
        C.is("its PAY", x.span(0, 4), 100);
        x.comes(0, 0, 0, 0, 1);
        C.yes("keep(1) anew", x.keep(1));
        x.goes(0);
        x.goes(0);
        C.yes("again(1)", x.again(1));
        C.is("as kept anew", x.count(0), 2);
    }

    private static void state(JoinedMonths x, int spans, int credit, int least, int ranks, int all, int index, int needed) {
        int[] due = {spans, credit, least, ranks, all};
        for (int what = 0; what < due.length; what++) {
            C.is("count(" + what + ")", x.count(what), due[what]);
        }
        C.is("count(8)", x.count(8), index);
        C.is("NEEDED", x.law(0, 0), needed);
    }

    private static void count() {
        JoinedMonths x = Check.with("aw000059100");
        C.is("another what", x.count(9), -1);
        C.is("another what", x.count(-1), -1);
        C.is("another what", x.count(Integer.MIN_VALUE), -1);
        C.is("SPANS", x.count(0), 1);
        C.is("ALL", x.count(4), 612);
        C.is("what can be undone", x.count(5), 1);
        C.is("no ROW yet", x.count(6), 0);
        x.gaps();
        C.is("an empty ROW", x.count(6), 0);
        x.own(0);
        C.is("a ROW of four", x.count(6), 4);
        x.sign(0);
        C.is("signs", x.count(7), 4);
        x.indexes(3, 99);
        x.indexes(4, 101);
        C.is("YEARS", x.count(8), 2);
        x.indexes(3, 100);
        C.is("YEARS", x.count(8), 1);
        x.sets(0, 1);
        x.sets(1, 2);
        C.is("CREDIT", x.count(1), 1);
        C.is("LEAST", x.count(2), 2);
        Check.say(x, "cvws");
        x.ranks();
        C.is("RANKS", x.count(3), 2301);
    }

    private static void row() {
        JoinedMonths x = Check.with("aw000059100");
        C.throwsNone("no ROW", () -> x.row(0));
        x.own(0);
        C.is("row(0)", x.row(0), 60);
        C.is("row(3)", x.row(3), 60);
        C.throwsNone("row(4)", () -> x.row(4));
        C.throwsNone("row(-1)", () -> x.row(-1));
        C.throwsNone("row of the greatest int", () -> x.row(Integer.MAX_VALUE));
        x.paid(0);
        C.is("row(0)", x.row(0), 1);
        C.throwsNone("a shorter ROW", () -> x.row(1));
    }
}

/** Promises 23 to 33: late, without, lawful, settled, instead, worth, best, buys, missing, earns, part. */
public final class WouldBeTest {
    private static final Check C = new Check("WouldBeTest");

    public static void main(String[] args) {
        late();
        without();
        lawfulAndSettled();
        instead();
        worth();
        best();
        buys();
        buysByWhatThereIs();
        buysAsIfTheyCame();
        missing();
        earns();
        part();
        C.end();
    }

    private static JoinedMonths full() {
        JoinedMonths x = new JoinedMonths();
        for (int k = 0; k < 20; k++) {
            x.comes(0, 0, 10 * k, 10 * k + 9, 100);
        }
        return x;
    }

    private static void late() {
        JoinedMonths x = Check.with("aw000058100");
        C.is("a MONTH too few", x.late(0, 0, 59, 59, 100), 100612);
        C.row("a MONTH too few", x, 1, 59, 59);
        C.is("it closes a GAP", x.late(0, 0, 61, 61, 100), 100000 + 620 + 62 * 20 * 98 / 10000);
        C.row("it closes a GAP", x, 3, 59, 61);
        C.is("it is worse", x.late(1, 0, 0, 9, 101), 100000);
        C.row("it is worse", x, 10, 0, 9);
        C.is("it changes no MONTH", x.late(0, 3, 0, 9, 999), 100000);
        C.row("it changes no MONTH", x, 0, -1, -1);
        C.is("another PAY alone", x.late(0, 0, 3, 5, 101), 100000);
        C.row("another PAY alone", x, 3, 3, 5);
        C.is("nothing has come", x.count(0), 1);
        C.is("nothing is kept", x.count(5), 1);
        int[][] wrong = {{-1, 0, 0, 0, 1}, {5, 0, 0, 0, 1}, {0, -1, 0, 0, 1}, {0, 4, 0, 0, 1}, {0, 0, -1, 0, 1},
            {0, 0, 0, 360, 1}, {0, 0, 5, 4, 1}, {0, 0, 0, 0, 0}, {0, 0, 0, 0, 1000}};
        JoinedMonths full = full();
        full.total();
        for (int[] w : wrong) {
            C.is("late()", x.late(w[0], w[1], w[2], w[3], w[4]), -1);
            C.is("late() with 20", full.late(w[0], w[1], w[2], w[3], w[4]), -1);
            C.is("comes()", x.comes(w[0], w[1], w[2], w[3], w[4]), -1);
            C.is("comes() with 20", full.comes(w[0], w[1], w[2], w[3], w[4]), -1);
            C.is("instead()", x.instead(0, w[0], w[1], w[2], w[3], w[4]), -1);
        }
        C.is("late() with 20", full.late(0, 0, 0, 0, 1), -3);
        C.row("the ROW stays", x, 3, 3, 5);
        C.row("the ROW stays", full, 100, 0, 0);
        JoinedMonths credited = Check.with("aw000000100aw002002100");
        C.is("a CREDITED MONTH COUNTS alike", credited.late(0, 0, 1, 1, 50), 100000);
        C.row("a CREDITED MONTH COUNTS alike", credited, 0, -1, -1);
    }

    private static void without() {
        JoinedMonths x = Check.with("aw000059100bw060119200aw060119200");
        C.is("ALL", x.count(4), 1236);
        C.is("without(0)", x.without(0), 100000 + 624 - 1236);
        C.row("without(0)", x, 60, 0, 59);
        C.is("without(1)", x.without(1), 100000);
        C.row("without(1)", x, 0, -1, -1);
        C.is("without(3)", x.without(3), -1);
        C.is("without(-1)", x.without(-1), -1);
        C.row("the ROW stays", x, 0, -1, -1);
        C.is("all are there", x.count(0), 3);
        JoinedMonths one = Check.with("aw000059100");
        C.is("without the only one", one.without(0), 100000 - 612);
        C.row("without the only one", one, 60, 0, 59);
        JoinedMonths gap = Check.with("aw000000101aw002002001aw005005002");
        gap.without(1);
        C.row("GAPS become another", gap, 3, 2, 4);
        gap.without(0);
        C.row("a GAP is none without a MONTH ahead", gap, 2, 0, 1);
    }

    private static void lawfulAndSettled() {
        JoinedMonths x = Check.with("aw000059100bw063074100");
        int all = x.count(4);
        C.is("NEEDED", x.lawful(0, 0, 64), 100000 + after(x, 0, 0, 64) - all);
        C.row("NEEDED", x, 0, -1, -1);
        C.is("FLAT", x.lawful(0, 1, 99), 100000 + after(x, 0, 1, 99) - all);
        C.is("PART", x.lawful(1, 2, 99), 100000 + after(x, 1, 2, 99) - all);
        C.is("AGE", x.lawful(0, 3, 359), 100000);
        C.is("as it is", x.lawful(0, 3, 300), 100000);
        C.is("the LAW stays", x.law(0, 1), 10);
        int[][] wrong = {{-1, 0, 1}, {5, 0, 1}, {0, -1, 1}, {0, 4, 1}, {0, 0, 0}, {0, 0, 241}, {0, 1, -1}, {0, 1, 100},
            {0, 2, -1}, {0, 2, 100}, {0, 3, -1}, {0, 3, 360}};
        x.total();
        for (int[] w : wrong) {
            C.is("lawful()", x.lawful(w[0], w[1], w[2]), -1);
            C.is("becomes()", x.becomes(w[0], w[1], w[2]), -1);
        }
        C.row("the ROW stays", x, 98, 0, 0);
        int credit2 = x.settled(2, 12);
        C.row("less CREDIT", x, 3, 60, 62);
        C.yes("less CREDIT is less", credit2 < 100000);
        C.is("as it is", x.settled(6, 12), 100000);
        C.row("as it is", x, 0, -1, -1);
        C.is("more LEAST lends", x.settled(6, 13), 100000 + 764 - all);
        C.row("more LEAST", x, 0, -1, -1);
        C.is("edges", x.settled(24, 0), 100000);
        C.yes("edges", x.settled(0, 60) > 0);
        int[][] others = {{-1, 0}, {25, 0}, {0, -1}, {0, 61}};
        for (int[] w : others) {
            C.is("settled()", x.settled(w[0], w[1]), -1);
        }
        C.row("the ROW stays", x, 3, 60, 62);
        C.is("CREDIT stays", x.count(1), 6);
        C.is("LEAST stays", x.count(2), 12);
    }

    private static int after(JoinedMonths x, int country, int what, int v) {
        x.becomes(country, what, v);
        int all = x.count(4);
        x.undo();
        return all;
    }

    private static void instead() {
        JoinedMonths x = Check.with("aw000059100");
        C.is("the same", x.instead(0, 0, 0, 0, 59, 100), 100000);
        C.row("the same", x, 0, -1, -1);
        C.is("later", x.instead(0, 0, 0, 1, 61, 100), 100010);
        C.row("later", x, 3, 0, 61);
        C.is("no such SPAN k", x.instead(1, 0, 0, 0, 59, 100), -1);
        C.is("no such SPAN k", x.instead(-1, 0, 0, 0, 59, 100), -1);
        C.row("the ROW stays", x, 3, 0, 61);
        C.is("it stays", x.span(0, 3), 59);
        JoinedMonths full = full();
        C.is("with 20", full.instead(19, 0, 0, 190, 209, 100), 100000 + 100 + 2);
        C.row("with 20", full, 10, 200, 209);
        C.is("with 20, no such SPAN k", full.instead(20, 0, 0, 190, 209, 100), -1);
        C.is("20 stay", full.count(0), 20);
    }

    private static void worth() {
        JoinedMonths x = Check.with("aw000009100aw010069100bv000359001aw070071100bv100100001");
        C.is("worth()", x.worth(), 5);
        long[] row = new long[5];
        long[] loss = new long[5];
        for (int i = 0; i < 5; i++) {
            row[i] = x.row(i);
        }
        for (int i = 0; i < 5; i++) {
            loss[i] = 100000 - x.without((int) row[i]);
        }
        for (int i = 1; i < 5; i++) {
            C.yes("in order", loss[i - 1] > loss[i] || loss[i - 1] == loss[i] && row[i - 1] < row[i]);
        }
        C.is("one that is worth nothing", row[4], 4);
        JoinedMonths equal = Check.with("aw000009100aw000009100aw000009100");
        C.is("equal ones", equal.worth(), 3);
        C.row("equal ones", equal, 0, 1, 2);
        JoinedMonths loses = Check.with("aw000059900bs000011001");
        Check.say(loses, "swcv");
        loses.ranks();
        C.is("one that takes", loses.worth(), 2);
        C.row("one that takes", loses, 0, 1);
        C.yes("ALL is more without", loses.without(1) > 100000);
        JoinedMonths none = new JoinedMonths();
        none.total();
        C.is("none", none.worth(), 0);
        C.row("none", none);
    }

    private static void best() {
        JoinedMonths x = Check.with("aw000059100as000059200ac000059300av000059400");
        C.is("best()", x.best(), 600 + 60 * 20 * 400 / 10000);
        C.row("v first, then by letters", x, 3, 2, 1, 0);
        C.is("RANKS stay", x.count(3), 123);
        JoinedMonths y = Check.with("as000059100aw000059200");
        C.is("best()", y.best(), 624);
        C.row("s behind w", y, 2, 3, 0, 1);
        JoinedMonths none = new JoinedMonths();
        C.is("none", none.best(), 0);
        C.row("none", none, 2, 1, 3, 0);
    }

    private static void buys() {
        JoinedMonths x = Check.with("aw010068100");
        C.is("one", x.buys(0, 1, 100), 100612);
        C.row("one", x, 1);
        C.is("24", x.buys(0, 24, 999), 100000 + 830 + 83 * 20 * ((5900 + 24 * 999) / 83) / 10000);
        C.row("24", x, 24);
        C.is("nothing comes", x.count(0), 1);
        C.is("nothing is kept", x.count(5), 1);
        int[][] wrong = {{-1, 1, 1}, {5, 1, 1}, {0, 0, 1}, {0, 25, 1}, {0, 1, 0}, {0, 1, 1000}};
        JoinedMonths none = new JoinedMonths();
        for (int[] w : wrong) {
            C.is("buys()", x.buys(w[0], w[1], w[2]), -1);
            C.is("buys() without SPANS", none.buys(w[0], w[1], w[2]), -1);
        }
        C.is("without SPANS", none.buys(0, 1, 1), -2);
        C.row("the ROW stays", x, 24);
        C.is("the ROW stays", none.count(6), 0);
        JoinedMonths end = Check.with("aw300350100");
        C.is("up to MONTH 359", end.buys(0, 24, 100), 100000 + 612);
        C.row("up to MONTH 359", end, 9);
        JoinedMonths first = Check.with("aw000000100bw002359100");
        first.sets(0, 0);
        C.is("behind MONTH 0 alone", first.buys(1, 2, 100), 100000 + 3672 - 3661);
        C.row("behind MONTH 0 alone", first, 1);
        JoinedMonths last = Check.with("aw359359100");
        C.is("none is left", last.buys(0, 24, 100), 100000);
        C.row("none is left", last, 0);
        JoinedMonths full = full();
        C.is("more than 20", full.buys(0, 24, 100), 100000 + 2284 - 2040);
        C.row("more than 20", full, 24);
    }

    private static void buysByWhatThereIs() {
        // A GAP of seven MONTHS, one too long: with the first one bought the six others would be CREDITED.
        JoinedMonths x = Check.with("aw000025100aw033058100");
        for (int n = 1; n <= 7; n++) {
            C.is("all within the GAP: 59 MONTHS are too few", x.buys(0, n, 100), 100000);
            C.row("all within the GAP", x, n);
        }
        C.is("the eighth is behind all", x.buys(0, 8, 100), 100000 + 612);
        C.row("the eighth is behind all", x, 8);
        C.is("the whole GAP and 17 behind all", x.buys(0, 24, 100), 100000 + 760 + 76 * 20 * 100 / 10000);
        C.row("24", x, 24);
        JoinedMonths told = Check.with("aw000059100bw066125200");
        told.sets(0, 5);
        C.is("the run of issue 8", told.buys(0, 2, 1), 100060);
        C.row("the run of issue 8", told, 2);
        JoinedMonths few = Check.with("aw000009100bw017359100");
        C.is("no more than there were", few.buys(2, 24, 100), 100000 + asIfTheyCame(few, 2, 24, 100) - few.count(4));
        few.buys(2, 24, 100);
        C.row("no more than there were", few, 7);
    }

    /** buys() against SPANS that come by hand in the MONTHS that month() tells, on objects with GAPS of many lengths. */
    private static void buysAsIfTheyCame() {
        java.util.Random random = new java.util.Random(8);
        for (int i = 0; i < 400; i++) {
            JoinedMonths x = new JoinedMonths();
            int from = random.nextInt(30);
            for (int k = 0; k < 1 + random.nextInt(8) && from < 360; k++) {
                int to = Math.min(359, from + random.nextInt(50));
                x.comes(random.nextInt(5), random.nextInt(4), from, to, 1 + random.nextInt(999));
                from = to + 1 + random.nextInt(16);
            }
            x.sets(0, random.nextInt(12));
            x.becomes(random.nextInt(5), 0, 1 + random.nextInt(60));
            int country = random.nextInt(5);
            int n = 1 + random.nextInt(12);
            int pay = 1 + random.nextInt(999);
            int all = x.count(4);
            int due = 100000 + asIfTheyCame(x, country, n, pay) - all;
            C.is("buys(" + country + ", " + n + ", " + pay + ") of object " + i, x.buys(country, n, pay), due);
            C.is("nothing is changed", x.count(4), all);
        }
    }

    private static int asIfTheyCame(JoinedMonths x, int country, int n, int pay) {
        java.util.List<Integer> left = new java.util.ArrayList<>();
        boolean begun = false;
        for (int m = 0; m < 360 && left.size() < n; m++) {
            begun = begun || x.month(m, 4) > 0;
            if (begun && x.month(m, 0) == 0) {
                left.add(m);
            }
        }
        x.keep(0);
        for (int m : left) {
            x.comes(country, 3, m, m, pay);
        }
        int all = x.count(4);
        x.again(0);
        return all;
    }

    private static void missing() {
        JoinedMonths x = Check.with("aw000039100bw040049100");
        C.is("missing(0)", x.missing(0), 20);
        C.row("missing(0)", x, 10);
        C.is("missing(2)", x.missing(2), 60);
        x.becomes(0, 0, 40);
        C.is("none", x.missing(0), 0);
        C.row("none", x, 0);
        x.becomes(0, 0, 1);
        C.is("never below 0", x.missing(0), 0);
        C.row("never below 0", x, 0);
        C.is("missing(5)", x.missing(5), -1);
        C.is("missing(-1)", x.missing(-1), -1);
        C.row("the ROW stays", x, 0);
    }

    private static void earns() {
        JoinedMonths x = Check.with("aw010019100bw020029100aw033042100");
        x.total();
        x.becomes(0, 0, 1);
        C.is("the first", x.earns(0), 10);
        x.becomes(0, 0, 11);
        C.is("behind b", x.earns(0), 33);
        x.becomes(0, 0, 20);
        C.is("the last", x.earns(0), 42);
        x.becomes(0, 0, 21);
        C.is("none", x.earns(0), -2);
        x.becomes(1, 0, 12);
        C.is("CREDITED ones, too", x.earns(1), 31);
        C.is("earns(5)", x.earns(5), -1);
        C.is("earns(-1)", x.earns(-1), -1);
        C.is("the ROW stays", x.count(6), 3);
    }

    private static void part() {
        JoinedMonths x = Check.with("aw010019100bw020029100aw032041100");
        C.is("before", x.part(0, 9), -2);
        C.is("the ROW stays", x.count(6), 0);
        part(x, 0, 10, 1, 1);
        part(x, 1, 10, 0, 1);
        part(x, 0, 24, 2, 3);
        part(x, 1, 24, 1, 3);
        part(x, 1, 31, 6, 11);
        part(x, 0, 359, 5, 8);
        part(x, 4, 359, 0, 1);
        int[][] wrong = {{-1, 0}, {5, 0}, {0, -1}, {0, 360}};
        for (int[] w : wrong) {
            C.is("part()", x.part(w[0], w[1]), -1);
        }
        C.row("the ROW stays", x, 0, 1);
    }

    private static void part(JoinedMonths x, int country, int m, int upper, int lower) {
        C.is("part(" + country + ", " + m + ")", x.part(country, m), 0);
        C.row("part(" + country + ", " + m + ")", x, upper, lower);
    }
}

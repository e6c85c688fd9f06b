/** Terms 1, sentence by sentence: what there is at first, what COUNTS, what is CREDITED, what is rounded down, ties. */
public final class TermsTest {
    private static final Check C = new Check("TermsTest");

    public static void main(String[] args) {
        calls512();
        atFirst();
        twentySpans();
        numberedAsTheyCame();
        yearsOfTwelveMonths();
        firstInRanks();
        greatestPay();
        firstCountry();
        leastNumber();
        payByIndex();
        gapEnds();
        creditedOnes();
        creditedPay();
        total();
        wages();
        bearer();
        base();
        sum();
        national();
        theoretical();
        shared();
        paid();
        C.end();
    }

    private static void calls512() {
        C.says("What it is: An object is used for at most 512 calls after it has been made");
        JoinedMonths x = Check.withSpans(20);
        for (int call = 21; call < 511; call += 5) {
            C.is("sets()", x.sets(0, call % 2), call == 21 ? 6 : 1 - call % 2);
            C.is("best()", x.best() >= 0 ? x.count(1) : -1, call % 2);
            C.yes("years()", x.years(call, 30) >= 0);
            C.is("what can be undone", x.count(5), 8);
        }
        C.is("the 511th call", x.undo(), 7);
        C.is("the 512th call", x.count(0), 20);
    }

    private static void atFirst() {
        C.says("Terms 1: NEEDED (60), FLAT (10), PART (20), AGE (300); RANKS w, s, c, v; CREDIT (6), LEAST (12), INDEX (100)");
        JoinedMonths x = new JoinedMonths();
        for (int country = 0; country < 5; country++) {
            C.is("NEEDED", x.law(country, 0), 60);
            C.is("FLAT", x.law(country, 1), 10);
            C.is("PART", x.law(country, 2), 20);
            C.is("AGE", x.law(country, 3), 300);
        }
        C.is("RANKS", x.count(3), 123);
        C.is("CREDIT", x.count(1), 6);
        C.is("LEAST", x.count(2), 12);
        for (int y = 0; y < 30; y++) {
            x.year(y);
            C.is("INDEX of " + y, x.row(6), 100);
        }
    }

    private static void twentySpans() {
        C.says("Terms 1: SPANS, at most 20");
        JoinedMonths x = new JoinedMonths();
        for (int k = 1; k <= 20; k++) {
            C.is("comes()", x.comes(0, 0, k, k, k), k);
        }
        C.is("the 21st", x.comes(0, 0, 0, 0, 1), -3);
        C.is("20 there are", x.count(0), 20);
        C.is("one goes", x.goes(7), 19);
        C.is("one comes", x.comes(0, 0, 0, 0, 1), 20);
    }

    private static void numberedAsTheyCame() {
        C.says("Terms 1: numbered as they came");
        JoinedMonths x = new JoinedMonths();
        x.comes(4, 3, 300, 359, 9);
        Check.spans(x, "dc200201008bs100101007");
        Check.day(x, "+aw000001006");
        for (int k = 0; k < 4; k++) {
            C.is("COUNTRY of SPAN " + k, x.span(k, 0), new int[] {4, 3, 1, 0}[k]);
            C.is("KIND of SPAN " + k, x.span(k, 1), new int[] {3, 2, 1, 0}[k]);
            C.is("PAY of SPAN " + k, x.span(k, 4), 9 - k);
        }
    }

    private static void yearsOfTwelveMonths() {
        C.says("Terms 1: YEARS 0 .. 29, of 12 MONTHS each");
        JoinedMonths x = Check.with("aw000359100");
        x.indexes(0, 50);
        x.indexes(1, 150);
        x.indexes(29, 400);
        int[] months = {0, 11, 12, 23, 24, 347, 348, 359};
        int[] due = {50, 50, 150, 150, 100, 100, 400, 400};
        for (int i = 0; i < months.length; i++) {
            C.is("PAY of MONTH " + months[i], x.month(months[i], 2), due[i]);
        }
        for (int y = 0; y < 30; y++) {
            C.is("MONTHS of YEAR " + y, x.year(y), 12);
        }
    }

    /** Of two SPANS over one MONTH the one that is told by k COUNTS, in whichever order they come. */
    private static void counts(String what, String ranks, String first, String second, boolean firstCounts) {
        JoinedMonths x = Check.with(first + second);
        JoinedMonths y = Check.with(second + first);
        if (!ranks.isEmpty()) {
            Check.ranks(x, ranks);
            Check.ranks(y, ranks);
        }
        C.is(what, x.month(5, 3), firstCounts ? 0 : 1);
        C.is(what + ", the other way round", y.month(5, 3), firstCounts ? 1 : 0);
        C.is(what + ", its COUNTRY", x.month(5, 1), x.span(firstCounts ? 0 : 1, 0));
        C.is(what + ", its PAY", x.month(5, 2), x.span(firstCounts ? 0 : 1, 4));
        C.is(what + ", one MONTH", x.total(), 1);
    }

    private static void firstInRanks() {
        C.says("Terms 1: by that one of them whose KIND stands first in RANKS");
        counts("w ahead of s", "", "ew005005001", "as005005999", true);
        counts("s ahead of c", "", "es005005001", "ac005005999", true);
        counts("c ahead of v", "", "ec005005001", "av005005999", true);
        String[] ranks = {"vcsw", "cvws", "swvc"};
        for (String r : ranks) {
            for (int i = 0; i < 3; i++) {
                counts(r, r, "e" + r.charAt(i) + "005005001", "a" + r.charAt(i + 1) + "005005999", true);
            }
        }
    }

    private static void greatestPay() {
        C.says("Terms 1: of like ones that of the greatest PAY");
        for (String kind : new String[] {"w", "s", "c", "v"}) {
            counts("101 ahead of 100", "", "e" + kind + "005005101", "a" + kind + "005005100", true);
            counts("2 ahead of 1", "", "e" + kind + "005005002", "a" + kind + "005005001", true);
            counts("999 ahead of 998", "", "e" + kind + "005005999", "a" + kind + "005005998", true);
        }
        JoinedMonths x = Check.with("aw000000002bw000000001");
        x.indexes(0, 50);
        C.is("by PAY of the SPAN", x.month(0, 1), 0);
        C.is("PAY of the MONTH", x.month(0, 2), 1);
        JoinedMonths y = Check.with("aw000000002bw000000003");
        y.indexes(0, 50);
        C.is("by PAY of the SPAN, where that of the MONTH is alike", y.month(0, 1), 1);
    }

    private static void firstCountry() {
        C.says("Terms 1: then of the first COUNTRY");
        for (int country = 0; country < 4; country++) {
            String one = "" + "abcde".charAt(country) + "w005005100";
            String next = "" + "abcde".charAt(country + 1) + "w005005100";
            counts("COUNTRY " + country, "", one, next, true);
        }
        counts("a ahead of e", "", "ev005005999", "av005005999", false);
    }

    private static void leastNumber() {
        C.says("Terms 1: then that of the least number");
        JoinedMonths x = Check.with("cs005006100cs004005100cs005005100");
        C.is("SPAN of MONTH 5", x.month(5, 3), 0);
        C.is("SPAN of MONTH 4", x.month(4, 3), 1);
        C.is("SPAN of MONTH 6", x.month(6, 3), 0);
        x.goes(0);
        C.is("SPAN of MONTH 5 behind it", x.month(5, 3), 0);
        JoinedMonths all = new JoinedMonths();
        for (int k = 0; k < 20; k++) {
            all.comes(4, 3, 0, 359, 1);
        }
        C.is("of 20 alike", all.month(0, 3), 0);
        C.is("of 20 alike", all.span(0, 5), 360);
        C.is("of 20 alike", all.span(1, 5), 0);
        C.is("of 20 alike", all.month(359, 4), 20);
    }

    private static void payByIndex() {
        C.says("Terms 1: that of the SPAN times INDEX of its YEAR by 100 (rounded down)");
        int[][] due = {{1, 50, 0}, {1, 99, 0}, {1, 100, 1}, {1, 199, 1}, {1, 200, 2}, {2, 50, 1}, {3, 50, 1}, {33, 303, 99},
            {999, 400, 3996}, {999, 50, 499}, {999, 101, 1008}};
        for (int[] d : due) {
            JoinedMonths x = new JoinedMonths();
            x.comes(0, 0, 12, 12, d[0]);
            x.indexes(1, d[1]);
            C.is("PAY " + d[0] + ", INDEX " + d[1], x.month(12, 2), d[2]);
            C.is("it COUNTS", x.month(12, 0), 1);
        }
    }

    private static void gapEnds() {
        C.says("Terms 1: with a MONTH that COUNTS right ahead of and right behind them");
        JoinedMonths none = new JoinedMonths();
        C.is("without SPANS", none.gaps(), 0);
        JoinedMonths one = Check.with("aw001358100");
        C.is("neither MONTH 0 nor MONTH 359 is a GAP", one.gaps(), 0);
        C.is("MONTH 0", one.month(0, 0), 0);
        C.is("MONTH 359", one.month(359, 0), 0);
        JoinedMonths touching = Check.with("aw000009100bw010019100");
        C.is("none between MONTHS right behind one another", touching.gaps(), 0);
        JoinedMonths least = Check.with("aw000000100bw002002100");
        C.is("of one MONTH", least.gaps(), 1);
        C.row("of one MONTH", least, 1, 1, 1);
        JoinedMonths greatest = Check.with("aw000000100bw359359100");
        C.is("of all MONTHS but the first and the last", greatest.gaps(), 1);
        C.row("of all MONTHS but the first and the last", greatest, 1, 358, 0);
        JoinedMonths under = Check.with("aw000000100bw002002100cv000002001");
        C.is("none where a SPAN of a later KIND covers it", under.gaps(), 0);
    }

    private static void creditedOnes() {
        C.says("Terms 1: one of at most CREDIT MONTHS is CREDITED");
        for (int credit : new int[] {0, 1, 6, 24}) {
            for (int length = Math.max(1, credit - 1); length <= credit + 1; length++) {
                JoinedMonths x = new JoinedMonths();
                x.comes(3, 0, 10, 10, 100);
                x.comes(1, 0, 11 + length, 11 + length, 100);
                x.sets(0, credit);
                boolean may = length <= credit;
                String what = "a GAP of " + length + ", CREDIT " + credit;
                C.is(what, x.gaps(), 1);
                C.row(what, x, 11, length, may ? 1 : 0);
                for (int m = 11; m < 11 + length; m++) {
                    C.is(what + ", MONTH " + m, x.month(m, 0), may ? 2 : 0);
                    C.is(what + ", its COUNTRY", x.month(m, 1), may ? 3 : -1);
                    C.is(what + ", its PAY", x.month(m, 2), may ? 50 : 0);
                    C.is(what + ", its SPAN", x.month(m, 3), -1);
                    C.is(what + ", its SPANS", x.month(m, 4), 0);
                }
            }
        }
    }

    private static void creditedPay() {
        C.says("Terms 1: of the COUNTRY of the MONTH right ahead of it all, with half of the PAY of that one (rounded down)");
        int[][] due = {{1, 100, 0}, {2, 100, 1}, {3, 100, 1}, {999, 100, 499}, {999, 400, 1998}, {3, 50, 0}, {101, 99, 49}};
        for (int[] d : due) {
            JoinedMonths x = new JoinedMonths();
            x.comes(2, 0, 11, 11, d[0]);
            x.comes(0, 0, 18, 18, 500);
            x.indexes(0, d[1]);
            x.indexes(1, 399);
            for (int m : new int[] {12, 17}) {
                C.is("PAY " + d[0] + ", INDEX " + d[1], x.month(m, 2), d[2]);
                C.is("its COUNTRY", x.month(m, 1), 2);
            }
        }
        JoinedMonths two = Check.with("cv009011100bw011011300aw014014900");
        C.is("of the MONTH right ahead, as that COUNTS", two.month(12, 1), 1);
        C.is("of the MONTH right ahead, as that COUNTS", two.month(13, 2), 150);
    }

    private static void total() {
        C.says("Terms 1: TOTAL: how many MONTHS COUNT or are CREDITED. OWN of a COUNTRY: those of these that are of it");
        C.is("none", new JoinedMonths().total(), 0);
        C.is("all", Check.with("aw000359100").total(), 360);
        JoinedMonths x = Check.with("aw000000100bw002002100cw004004100cw012012100");
        C.is("two GAPS are CREDITED, one is not", x.total(), 6);
        C.is("OWN of a", x.own(0), 2);
        C.is("OWN of b", x.own(1), 2);
        C.is("OWN of c", x.own(2), 2);
        C.is("OWN of d", x.own(3), 0);
        JoinedMonths twice = Check.with("aw000359100bw000359100");
        C.is("a MONTH counts once", twice.total(), 360);
        C.is("a MONTH counts once", twice.own(1), 0);
    }

    private static void wages() {
        C.says("Terms 1: WAGE: PAY of all of them together by TOTAL (rounded down; 0 without any); OWN WAGE: of a COUNTRY's by OWN");
        JoinedMonths none = new JoinedMonths();
        none.total();
        C.is("WAGE without any", none.row(0), 0);
        none.own(0);
        C.is("OWN WAGE without any", none.row(2), 0);
        int[][] due = {{1, 2, 1}, {1, 1, 1}, {2, 3, 2}, {3, 4, 3}, {999, 998, 998}};
        for (int[] d : due) {
            JoinedMonths x = new JoinedMonths();
            x.comes(0, 0, 0, 0, d[0]);
            x.comes(0, 0, 1, 1, d[1]);
            x.comes(1, 0, 2, 2, d[0]);
            x.own(0);
            C.is("OWN WAGE of " + d[0] + " and " + d[1], x.row(2), d[2]);
            x.own(1);
            C.is("OWN WAGE of " + d[0], x.row(2), d[0]);
            x.total();
            C.is("WAGE", x.row(0), (2 * d[0] + d[1]) / 3);
        }
        JoinedMonths most = Check.with("aw000359999");
        for (int y = 0; y < 30; y++) {
            most.indexes(y, 400);
        }
        most.total();
        C.is("the greatest WAGE", most.row(0), 3996);
    }

    private static JoinedMonths owning(int... months) {
        JoinedMonths x = new JoinedMonths();
        int from = 0;
        for (int country = 0; country < months.length; country++) {
            if (months[country] > 0) {
                x.comes(country, 0, from, from + months[country] - 1, 100);
                from += months[country];
            }
        }
        return x;
    }

    private static void bearer(int least, int due, int... months) {
        JoinedMonths x = owning(months);
        x.sets(1, least);
        x.total();
        C.is("the BEARER of " + java.util.Arrays.toString(months) + ", LEAST " + least, x.row(1), due);
    }

    private static void bearer() {
        C.says("Terms 1: of COUNTRIES with OWN of LEAST at least (and 1) that of the most OWN (of equal ones the first)");
        bearer(12, -1);
        bearer(0, -1);
        bearer(1, -1);
        bearer(12, -1, 11);
        bearer(12, 0, 12);
        bearer(0, 4, 0, 0, 0, 0, 1);
        bearer(1, 4, 0, 0, 0, 0, 1);
        bearer(2, -1, 0, 0, 0, 0, 1);
        bearer(60, 2, 59, 0, 60);
        bearer(60, -1, 59, 59, 59, 59, 59);
        bearer(12, 0, 20, 20, 20, 20, 20);
        bearer(12, 1, 20, 21, 20, 21, 20);
        bearer(12, 3, 20, 11, 20, 21, 20);
        bearer(0, 0, 5, 5);
    }

    private static void base(int least, int[] months, long lent, int... due) {
        JoinedMonths x = owning(months);
        x.sets(1, least);
        String what = "BASE of " + java.util.Arrays.toString(months) + ", LEAST " + least;
        for (int country = 0; country < 5; country++) {
            x.own(country);
            C.is(what + ", COUNTRY " + country, x.row(3), due[country]);
        }
        x.total();
        C.is(what + ", lent", x.row(2), lent);
    }

    private static void base() {
        C.says("Terms 1: BASE: OWN, if that is LEAST or more, else 0; that of the BEARER also OWN of all those that have less");
        base(12, new int[] {12, 13, 11}, 11, 12, 24, 0, 0, 0);
        base(12, new int[] {11, 11, 11}, 0, 0, 0, 0, 0, 0);
        base(12, new int[] {12, 11, 1, 2, 3}, 17, 29, 0, 0, 0, 0);
        base(0, new int[] {1, 2, 3}, 0, 1, 2, 3, 0, 0);
        base(1, new int[] {1, 2, 3}, 0, 1, 2, 3, 0, 0);
        base(2, new int[] {1, 2, 3}, 1, 0, 2, 4, 0, 0);
        base(60, new int[] {59, 60, 61}, 59, 0, 60, 120, 0, 0);
        base(13, new int[] {12, 12, 13, 13}, 24, 0, 0, 37, 13, 0);
        base(0, new int[] {}, 0, 0, 0, 0, 0, 0);
    }

    /** NATIONAL of one COUNTRY with n MONTHS of one PAY. */
    private static void sum(int n, int flat, int part, int pay, int due) {
        JoinedMonths x = new JoinedMonths();
        x.comes(0, 0, 0, n - 1, pay);
        x.becomes(0, 0, 1);
        x.becomes(0, 1, flat);
        x.becomes(0, 2, part);
        C.is("SUM of " + n + ", FLAT " + flat + ", PART " + part + ", PAY " + pay, x.national(0), due);
    }

    private static void sum() {
        C.says("Terms 1: SUM: n times FLAT, and n times PART times g by 10000 (rounded down)");
        sum(1, 0, 0, 999, 0);
        sum(1, 1, 0, 999, 1);
        sum(360, 99, 0, 999, 35640);
        sum(360, 0, 99, 999, 3560);
        sum(360, 99, 99, 999, 39200);
        sum(100, 0, 10, 10, 1);
        sum(99, 0, 10, 10, 0);
        sum(101, 0, 11, 9, 0);
        sum(100, 0, 20, 10, 2);
        sum(3, 1, 99, 34, 4);
        sum(1, 0, 99, 101, 0);
        JoinedMonths most = Check.with("aw000359999");
        for (int y = 0; y < 30; y++) {
            most.indexes(y, 400);
        }
        Check.laws(most, "a2409999359");
        C.is("the greatest", most.national(0), 360 * 99 + 360 * 99 * 3996 / 10000);
        C.is("the greatest", most.theoretical(0), 360 * 99 + 360 * 99 * 3996 / 10000);
        C.row("the greatest", most, 360 * 99 + 360 * 99 * 3996 / 10000);
    }

    private static void national() {
        C.says("Terms 1: NATIONAL: if OWN is NEEDED or more (and not 0), else 0");
        for (int needed : new int[] {1, 2, 60, 240}) {
            for (int own = needed - 1; own <= needed + 1; own++) {
                JoinedMonths x = owning(0, own);
                x.becomes(1, 0, needed);
                C.is("OWN " + own + ", NEEDED " + needed, x.national(1), own < needed ? 0 : own * 10 + own * 20 * 100 / 10000);
            }
        }
        JoinedMonths none = new JoinedMonths();
        none.becomes(0, 0, 1);
        C.is("OWN 0, NEEDED 1", none.national(0), 0);
    }

    private static void theoretical() {
        C.says("Terms 1: THEORETICAL: if TOTAL is NEEDED or more and its BASE is not 0, else 0");
        for (int total = 59; total <= 61; total++) {
            JoinedMonths x = owning(20, total - 20);
            C.is("TOTAL " + total, x.theoretical(0), total < 60 ? 0 : total * 10 + total * 20 * 100 / 10000);
        }
        JoinedMonths x = owning(11, 12, 50);
        C.is("BASE is 0", x.theoretical(0), 0);
        C.row("BASE is 0", x, 0);
        C.is("BASE is 12", x.theoretical(1), 744);
        C.is("no MONTHS", x.theoretical(4), 0);
        x.sets(1, 11);
        C.is("BASE is 11", x.theoretical(0), 744);
        x.sets(1, 0);
        C.is("no MONTHS, LEAST 0", x.theoretical(4), 0);
        JoinedMonths none = new JoinedMonths();
        none.sets(1, 0);
        none.becomes(0, 0, 1);
        C.is("TOTAL is 0", none.theoretical(0), 0);
        C.row("TOTAL is 0", none, 0);
    }

    private static void shared() {
        C.says("Terms 1: SHARED: THEORETICAL times BASE by TOTAL (rounded down)");
        JoinedMonths x = owning(20, 41);
        // TOTAL 61, WAGE 100, THEORETICAL 610 + 12 = 622.
        x.theoretical(0);
        C.row("622 times 20 by 61", x, 203);
        x.theoretical(1);
        C.row("622 times 41 by 61", x, 418);
        JoinedMonths alone = owning(61);
        alone.theoretical(0);
        C.row("all of it", alone, 622);
        JoinedMonths lent = owning(11, 50);
        lent.theoretical(1);
        C.row("all of it, with MONTHS that are lent", lent, 622);
    }

    private static void paid() {
        C.says("Terms 1: PAID: the greater of NATIONAL and SHARED. ALL: PAID of all COUNTRIES together");
        JoinedMonths x = Check.with("aw000059100bw060119300");
        // NATIONAL of a 612, of b 636; WAGE 200, THEORETICAL 1200 + 48, SHARED 624 each.
        C.is("SHARED of a", x.paid(0), 624);
        C.row("SHARED of a", x, 2);
        C.is("NATIONAL of b", x.paid(1), 636);
        C.row("NATIONAL of b", x, 1);
        C.is("ALL", x.count(4), 1260);
        JoinedMonths alike = Check.with("aw000059100bw060119100");
        C.is("both are alike", alike.paid(0), 612);
        C.row("both are alike", alike, 1);
        C.is("ALL", alike.count(4), 1224);
        C.is("ALL of none", new JoinedMonths().count(4), 0);
        JoinedMonths five = owning(60, 60, 60, 60, 60);
        C.is("ALL of five", five.count(4), 5 * 612);
    }
}

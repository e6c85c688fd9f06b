/** Promises 8 to 22 at their edges, sentence by sentence: what there is, and what is paid. */
public final class ThereIsEdgesTest {
    private static final Check C = new Check("ThereIsEdgesTest");

    public static void main(String[] args) {
        span();
        spanCounts();
        law();
        month();
        own();
        total();
        year();
        gaps();
        doubles();
        doublesFull();
        pieces();
        both();
        national();
        theoretical();
        paid();
        at();
        atBits();
        most();
        mostOfEqualOnes();
        C.end();
    }

    private static void span() {
        C.says("Promise 8: what 0: COUNTRY, 1: KIND, 2: its first MONTH, 3: its last, 4: PAY; none such, another what");
        JoinedMonths x = Check.withSpans(20);
        for (int k = 0; k < 20; k++) {
            int[] due = {k % 5, k % 4, 10 * k, 10 * k, 100 + k, 1};
            for (int what = 0; what < 6; what++) {
                C.is("span(" + k + ", " + what + ")", x.span(k, what), due[what]);
            }
        }
        C.throwsNone("span(20, 0)", () -> x.span(20, 0));
        C.throwsNone("span(-1, 0)", () -> x.span(-1, 0));
        C.throwsNone("span(19, 6)", () -> x.span(19, 6));
        C.throwsNone("span(0, -1)", () -> x.span(0, -1));
        C.throwsNone("span(20, 6)", () -> x.span(20, 6));
        x.goes(19);
        C.throwsNone("span(19, 0), it went", () -> x.span(19, 0));
        C.is("span(18, 4)", x.span(18, 4), 118);
        JoinedMonths none = new JoinedMonths();
        for (int what = 0; what < 6; what++) {
            int w = what;
            C.throwsNone("without SPANS", () -> none.span(0, w));
        }
    }

    private static void spanCounts() {
        C.says("Promise 8: what 5: how many MONTHS COUNT by it");
        JoinedMonths x = Check.with("av000359001aw000000001aw359359001as100199001aw150150001");
        int[] due = {258, 1, 1, 99, 1};
        for (int k = 0; k < due.length; k++) {
            C.is("SPAN " + k, x.span(k, 5), due[k]);
        }
        JoinedMonths hidden = Check.with("av010019001aw000029001aw040040001");
        C.is("none", hidden.span(0, 5), 0);
        C.is("CREDITED ones do not COUNT", Check.with("aw000000001aw002002001").span(0, 5), 1);
    }

    private static void law() {
        C.says("Promise 9: what 0: NEEDED, 1: FLAT, 2: PART, 3: AGE; none such, another what");
        JoinedMonths x = new JoinedMonths();
        for (int i = 0; i < 20; i++) {
            x.becomes(i / 4, i % 4, 40 + i);
        }
        for (int i = 0; i < 20; i++) {
            C.is("law(" + i / 4 + ", " + i % 4 + ")", x.law(i / 4, i % 4), 40 + i);
        }
        int[][] wrong = {{-1, 0}, {5, 0}, {0, -1}, {0, 4}, {4, 4}, {4, -1}, {5, 4}};
        for (int[] w : wrong) {
            C.throwsNone("law(" + w[0] + ", " + w[1] + ")", () -> x.law(w[0], w[1]));
        }
    }

    private static void month(JoinedMonths x, int m, int... due) {
        for (int what = 0; what < 5; what++) {
            C.is("month(" + m + ", " + what + ")", x.month(m, what), due[what]);
        }
    }

    private static void month() {
        C.says("Promise 10: 0 if it neither COUNTS nor is CREDITED, 1, 2; NONE without; 0 without; NONE without; how many cover it");
        JoinedMonths x = Check.with("bw000000001dv000000900cw002002077ew359359999");
        month(x, 0, 1, 1, 1, 0, 2);
        month(x, 1, 2, 1, 0, -1, 0);
        month(x, 2, 1, 2, 77, 2, 1);
        month(x, 3, 0, -1, 0, -1, 0);
        month(x, 358, 0, -1, 0, -1, 0);
        month(x, 359, 1, 4, 999, 3, 1);
        month(new JoinedMonths(), 0, 0, -1, 0, -1, 0);
        month(new JoinedMonths(), 359, 0, -1, 0, -1, 0);
        int[][] wrong = {{-1, 0}, {360, 0}, {0, -1}, {0, 5}, {359, 5}, {359, -1}, {360, 5}};
        for (int[] w : wrong) {
            C.throwsNone("month(" + w[0] + ", " + w[1] + ")", () -> x.month(w[0], w[1]));
        }
    }

    private static void own() {
        C.says("Promise 11: how many of these COUNT, how many are CREDITED, OWN WAGE, BASE");
        JoinedMonths none = new JoinedMonths();
        for (int country = 0; country < 5; country++) {
            C.is("without SPANS", none.own(country), 0);
            C.row("without SPANS", none, 0, 0, 0, 0);
        }
        JoinedMonths all = Check.with("ew000359100");
        C.is("all", all.own(4), 360);
        C.row("all", all, 360, 0, 100, 360);
        C.is("none of them", all.own(0), 0);
        C.row("none of them", all, 0, 0, 0, 0);
        JoinedMonths gap = Check.with("dw000000101ew007007100");
        C.is("most are CREDITED", gap.own(3), 7);
        C.row("most are CREDITED", gap, 1, 6, (101 + 6 * 50) / 7, 0);
        gap.sets(1, 7);
        C.is("OWN is LEAST", gap.own(3), 7);
        C.row("OWN is LEAST", gap, 1, 6, 57, 8);
        C.is("own(5)", gap.own(5), -1);
        C.row("own(5): the ROW stays", gap, 1, 6, 57, 8);
    }

    private static void total() {
        C.says("Promise 12: WAGE, the BEARER (NONE without), MONTHS that are lent to it");
        JoinedMonths none = new JoinedMonths();
        C.is("without SPANS", none.total(), 0);
        C.row("without SPANS", none, 0, -1, 0);
        JoinedMonths few = Check.with("aw000010100bw011021100");
        C.is("without BEARER", few.total(), 22);
        C.row("without BEARER", few, 100, -1, 0);
        JoinedMonths one = Check.with("aw000010100bw011022100");
        C.is("with BEARER", one.total(), 23);
        C.row("with BEARER", one, 100, 1, 11);
        JoinedMonths both = Check.with("aw000011100bw012023100");
        C.is("nothing is lent", both.total(), 24);
        C.row("nothing is lent", both, 100, 0, 0);
    }

    private static void year() {
        C.says("Promise 13: MONTHS of a YEAR that COUNT or are CREDITED; NONE: no such YEAR");
        JoinedMonths none = new JoinedMonths();
        for (int y : new int[] {0, 29}) {
            C.is("without SPANS", none.year(y), 0);
            C.row("without SPANS", none, 0, 0, 0, 0, 0, 0, 100);
        }
        JoinedMonths x = Check.with("aw011011100bw012012100ew347347100cw348348100dw359359100");
        C.is("year(0)", x.year(0), 1);
        C.row("year(0)", x, 1, 0, 0, 0, 0, 100, 100);
        C.is("year(1)", x.year(1), 1);
        C.row("year(1)", x, 0, 1, 0, 0, 0, 100, 100);
        C.is("year(28)", x.year(28), 1);
        C.row("year(28)", x, 0, 0, 0, 0, 1, 100, 100);
        C.is("year(29)", x.year(29), 2);
        C.row("year(29)", x, 0, 0, 1, 1, 0, 200, 100);
        C.is("year(30)", x.year(30), -1);
        C.is("year(-1)", x.year(-1), -1);
        JoinedMonths gap = Check.with("aw009009100bw014014100");
        C.is("CREDITED ones of YEAR 0", gap.year(0), 3);
        C.row("CREDITED ones of YEAR 0", gap, 3, 0, 0, 0, 0, 200, 100);
        C.is("CREDITED ones of YEAR 1", gap.year(1), 3);
        C.row("CREDITED ones of YEAR 1", gap, 2, 1, 0, 0, 0, 200, 100);
        JoinedMonths all = Check.with("aw000359999");
        all.indexes(29, 400);
        C.is("the greatest", all.year(29), 12);
        C.row("the greatest", all, 12, 0, 0, 0, 0, 47952, 400);
    }

    private static void gaps() {
        C.says("Promise 14: GAPS: how many; the ROW: of each its first MONTH, how many MONTHS, 1 if it is CREDITED, else 0");
        JoinedMonths none = new JoinedMonths();
        none.total();
        C.is("without SPANS", none.gaps(), 0);
        C.row("without SPANS", none);
        JoinedMonths one = Check.with("aw000359100");
        one.total();
        C.is("all MONTHS are covered", one.gaps(), 0);
        C.row("all MONTHS are covered", one);
        JoinedMonths many = Check.withSpans(20);
        C.is("nineteen", many.gaps(), 19);
        C.is("nineteen", many.count(6), 57);
        for (int g = 0; g < 19; g++) {
            C.is("the first MONTH", many.row(3 * g), 10 * g + 1);
            C.is("how many", many.row(3 * g + 1), 9);
            C.is("CREDITED", many.row(3 * g + 2), 0);
        }
        many.sets(0, 9);
        many.gaps();
        C.is("CREDIT is 9", many.row(2), 1);
        C.is("CREDIT is 9", many.row(56), 1);
    }

    private static void doubles() {
        C.says("Promise 15: the most that cover one, the first such MONTH (0, NONE without SPANS)");
        JoinedMonths none = new JoinedMonths();
        C.is("without SPANS", none.doubles(), 0);
        C.row("without SPANS", none, 0, -1);
        JoinedMonths one = Check.with("aw359359100");
        C.is("the last MONTH", one.doubles(), 0);
        C.row("the last MONTH", one, 1, 359);
        JoinedMonths touching = Check.with("aw000009100bw010019100");
        C.is("one right behind another", touching.doubles(), 0);
        C.row("one right behind another", touching, 1, 0);
        JoinedMonths single = Check.with("aw000009100bw009019100");
        C.is("one MONTH", single.doubles(), 1);
        C.row("one MONTH", single, 2, 9);
        JoinedMonths twice = Check.with("aw000009100bw005009100aw020029100bw025029100");
        C.is("the first such MONTH", twice.doubles(), 10);
        C.row("the first such MONTH", twice, 2, 5);
    }

    private static void doublesFull() {
        C.says("Promise 15: MONTHS that more than one SPAN covers, of 20 SPANS");
        JoinedMonths x = new JoinedMonths();
        for (int k = 0; k < 20; k++) {
            x.comes(0, 0, 359 - k, 359, 1);
        }
        C.is("all but the first", x.doubles(), 19);
        C.row("all but the first", x, 20, 359);
        JoinedMonths all = new JoinedMonths();
        for (int k = 0; k < 20; k++) {
            all.comes(0, 0, 0, 359, 1);
        }
        C.is("all MONTHS", all.doubles(), 360);
        C.row("all MONTHS", all, 20, 0);
    }

    private static void pieces() {
        C.says("Promise 16: Rows of MONTHS one behind another that COUNT by one and the same SPAN");
        JoinedMonths none = new JoinedMonths();
        none.total();
        C.is("without SPANS", none.pieces(), 0);
        C.row("without SPANS", none);
        JoinedMonths all = Check.with("aw000359100");
        C.is("all MONTHS", all.pieces(), 1);
        C.row("all MONTHS", all, 0, 0, 360);
        JoinedMonths ends = Check.with("aw000000100aw359359100");
        C.is("the first and the last MONTH", ends.pieces(), 2);
        C.row("the first and the last MONTH", ends, 0, 0, 1, 1, 359, 1);
        JoinedMonths touching = Check.with("aw000009100aw010019100");
        C.is("two SPANS that are alike", touching.pieces(), 2);
        C.row("two SPANS that are alike", touching, 0, 0, 10, 1, 10, 10);
        JoinedMonths hidden = Check.with("av003004001aw000009100");
        C.is("a SPAN by which none COUNTS", hidden.pieces(), 1);
        C.row("a SPAN by which none COUNTS", hidden, 1, 0, 10);
        JoinedMonths gap = Check.with("aw000000100aw002002100");
        C.is("CREDITED ones are of none", gap.pieces(), 2);
        C.row("CREDITED ones are of none", gap, 0, 0, 1, 1, 2, 1);
        JoinedMonths most = Check.with(Edges.twenty());
        C.is("39 pieces", most.pieces(), 39);
        C.is("39 pieces", most.count(6), 117);
        for (int i = 0; i < 39; i++) {
            C.is("SPAN of piece " + i, most.row(3 * i), i % 2 == 0 ? 0 : 1 + i / 2);
            C.is("first MONTH of piece " + i, most.row(3 * i + 1), i == 0 ? 0 : 99 + i);
            C.is("MONTHS of piece " + i, most.row(3 * i + 2), i == 0 ? 100 : i == 38 ? 223 : 1);
        }
    }

    private static void both() {
        C.says("Promise 17: MONTHS that SPANS of both COUNTRIES cover: how many. NONE: no such COUNTRIES, both are one");
        C.is("without SPANS", new JoinedMonths().both(0, 4), 0);
        JoinedMonths x = Check.with("aw000359100ev000000100ev359359001aw000000001");
        C.is("the first and the last MONTH", x.both(0, 4), 2);
        C.is("the first and the last MONTH", x.both(4, 0), 2);
        C.is("two of one COUNTRY", x.both(0, 1), 0);
        JoinedMonths all = Check.with("bw000359100cv000359100");
        C.is("all", all.both(1, 2), 360);
        JoinedMonths touching = Check.with("bw000009100cw010019100");
        C.is("one right behind another", touching.both(1, 2), 0);
        int[][] wrong = {{0, 0}, {4, 4}, {-1, 0}, {0, -1}, {5, 0}, {0, 5}, {-1, -1}, {5, 5}, {-1, 5}};
        for (int[] w : wrong) {
            C.is("both(" + w[0] + ", " + w[1] + ")", x.both(w[0], w[1]), -1);
        }
    }

    private static void national() {
        C.says("Promise 18: NATIONAL. NONE: no such COUNTRY");
        JoinedMonths x = Check.with("ew000059100");
        for (int country = -1; country <= 5; country++) {
            int due = country == 4 ? 612 : country < 0 || country > 4 ? -1 : 0;
            C.is("national(" + country + ")", x.national(country), due);
            C.is("without SPANS", new JoinedMonths().national(country), Math.min(0, due));
        }
    }

    private static void theoretical() {
        C.says("Promise 19: THEORETICAL; the ROW: SHARED. NONE: no such COUNTRY");
        JoinedMonths x = Check.with("ew000059100");
        for (int country = 0; country < 5; country++) {
            C.is("theoretical(" + country + ")", x.theoretical(country), country == 4 ? 612 : 0);
            C.row("theoretical(" + country + ")", x, country == 4 ? 612 : 0);
        }
        C.is("theoretical(5)", x.theoretical(5), -1);
        C.is("theoretical(-1)", x.theoretical(-1), -1);
        C.row("the ROW stays", x, 612);
        JoinedMonths none = new JoinedMonths();
        C.is("without SPANS", none.theoretical(0), 0);
        C.row("without SPANS", none, 0);
    }

    private static void paid() {
        C.says("Promise 20: 0 if it is 0, 1 if it is NATIONAL (also if both are alike), 2 if it is SHARED");
        JoinedMonths none = new JoinedMonths();
        C.is("without SPANS", none.paid(4), 0);
        C.row("without SPANS", none, 0);
        JoinedMonths zero = Check.with("aw000059001");
        zero.becomes(0, 1, 0);
        C.is("FLAT 0, and PART too little", zero.paid(0), 0);
        C.row("FLAT 0, and PART too little", zero, 0);
        JoinedMonths alike = Check.with("aw000059100");
        C.is("both are alike", alike.paid(0), 612);
        C.row("both are alike", alike, 1);
        // a: NATIONAL 600 + 60 * 20 * 100 / 10000; TOTAL 72, WAGE 99, THEORETICAL 720 + 14, SHARED 734 * 60 / 72 = 611.
        JoinedMonths one = Check.with("aw000059100bw060071096");
        C.is("NATIONAL is one more", one.paid(0), 612);
        C.row("NATIONAL is one more", one, 1);
        C.is("SHARED alone", one.paid(1), 122);
        C.row("SHARED alone", one, 2);
        // a: NATIONAL 612; TOTAL 72, WAGE 108, THEORETICAL 720 + 15, SHARED 735 * 60 / 72 = 612.
        JoinedMonths rounded = Check.with("aw000059100bw060071150");
        C.is("both are alike when rounded down", rounded.paid(0), 612);
        C.row("both are alike when rounded down", rounded, 1);
        // WAGE 116: THEORETICAL 720 + 16, SHARED 736 * 60 / 72 = 613.
        JoinedMonths better = Check.with("aw000059100bw060071200");
        C.is("SHARED is one more", better.paid(0), 613);
        C.row("SHARED is one more", better, 2);
        C.is("paid(5)", better.paid(5), -1);
        C.is("paid(-1)", better.paid(-1), -1);
        C.row("the ROW stays", better, 2);
    }

    private static void at() {
        C.says("Promise 21: PAID of all COUNTRIES of which AGE is at most m (0 .. 359): together");
        for (int age : new int[] {0, 1, 358, 359}) {
            JoinedMonths x = Check.with("cw000059100");
            x.becomes(2, 3, age);
            for (int m = Math.max(0, age - 1); m <= Math.min(359, age + 1); m++) {
                C.is("AGE " + age + ", at(" + m + ")", x.at(m), m >= age ? 612 : 0);
                C.row("AGE " + age, x, (m >= age ? 4 : 0) + (m >= 300 ? 27 : 0), 612);
            }
            C.is("at(360)", x.at(360), -1);
            C.is("at(-1)", x.at(-1), -1);
        }
    }

    private static void atBits() {
        C.says("Promise 21: the ROW: these (bits; also such as pay nothing), ALL");
        JoinedMonths x = new JoinedMonths();
        for (int country = 0; country < 5; country++) {
            x.becomes(country, 3, 10 * country);
        }
        for (int m = 0; m <= 50; m++) {
            C.is("at(" + m + ")", x.at(m), 0);
            C.row("at(" + m + ")", x, (1 << Math.min(5, m / 10 + 1)) - 1, 0);
        }
    }

    private static void most() {
        C.says("Promise 22: how much, hundredths of ALL that is (rounded down). -2: ALL is 0");
        JoinedMonths none = new JoinedMonths();
        none.year(3);
        C.is("without SPANS", none.most(), -2);
        C.is("the ROW stays", none.count(6), 7);
        JoinedMonths few = Check.with("aw000058100");
        C.is("ALL is 0", few.most(), -2);
        C.is("no ROW", few.count(6), 0);
        JoinedMonths alone = Check.with("ew000059100");
        C.is("one alone", alone.most(), 4);
        C.row("one alone", alone, 612, 100);
        // One MONTH of FLAT 1 for each: a third is 33, two thirds are 66.
        JoinedMonths third = Check.with("aw000000001bw001001001cw002002001");
        Check.laws(third, "a0010100000b0010100000c0010100000");
        C.is("three alike", third.most(), 0);
        C.row("three alike", third, 1, 33);
        third.becomes(1, 1, 2);
        C.is("half of ALL", third.most(), 1);
        C.row("half of ALL", third, 2, 50);
        third.becomes(2, 0, 240);
        C.is("two thirds", third.most(), 1);
        C.row("two thirds", third, 2, 66);
        third.becomes(1, 1, 99);
        C.is("99 of 100", third.most(), 1);
        C.row("99 of 100", third, 99, 99);
    }

    private static void mostOfEqualOnes() {
        C.says("Promise 22: The COUNTRY that pays most (of equal ones the first)");
        JoinedMonths x = Check.with("aw000059100bw060119100cw120179100dw180239100ew240299100");
        for (int country = 0; country < 5; country++) {
            C.is("most()", x.most(), country);
            C.row("most()", x, 612, 100 / (5 - country));
            x.becomes(country, 1, 0);
            x.becomes(country, 2, 0);
        }
    }
}

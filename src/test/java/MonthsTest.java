/** Promises 8 to 17: span, law, month, own, total, year, gaps, doubles, pieces, both. */
public final class MonthsTest {
    private static final Check C = new Check("MonthsTest");

    public static void main(String[] args) {
        spanAndLaw();
        monthsCount();
        credited();
        ownAndTotal();
        lent();
        year();
        gaps();
        doubles();
        pieces();
        both();
        C.end();
    }

    private static void spanAndLaw() {
        JoinedMonths x = Check.with("cv100119300bs110129200");
        int[][] due = {{2, 3, 100, 119, 300, 10}, {1, 1, 110, 129, 200, 20}};
        for (int k = 0; k < 2; k++) {
            for (int what = 0; what < 6; what++) {
                C.is("span(" + k + ", " + what + ")", x.span(k, what), due[k][what]);
            }
        }
        int[][] wrong = {{-1, 0}, {2, 0}, {0, 6}, {0, -1}, {Integer.MIN_VALUE, 1}, {1, Integer.MAX_VALUE}};
        for (int[] w : wrong) {
            C.throwsNone("span(" + w[0] + ", " + w[1] + ")", () -> x.span(w[0], w[1]));
        }
        x.becomes(3, 2, 77);
        C.is("law(3, 2)", x.law(3, 2), 77);
        C.is("law(2, 2)", x.law(2, 2), 20);
        int[][] none = {{-1, 0}, {5, 0}, {0, 4}, {0, -1}, {Integer.MAX_VALUE, 1}};
        for (int[] w : none) {
            C.throwsNone("law(" + w[0] + ", " + w[1] + ")", () -> x.law(w[0], w[1]));
        }
    }

    private static void monthsCount() {
        JoinedMonths x = Check.with("ev000009900dc002009800cs004009700bw006009100");
        by(x, 0, 0, 1, 1, 2, 2, 3, 3, 3, 3);
        Check.say(x, "vcsw");
        x.ranks();
        by(x, 0, 0, 0, 0, 0, 0, 0, 0, 0, 0);
        JoinedMonths pay = Check.with("aw000003100bw001003101cw002003100");
        by(pay, 0, 1, 1, 1);
        JoinedMonths land = Check.with("cw000003100bw001003100aw002003100");
        by(land, 0, 1, 2, 2);
        JoinedMonths number = Check.with("aw001003100aw000003100aw002003100");
        by(number, 1, 0, 0, 0);
        C.is("how many cover it", x.month(6, 4), 4);
        C.is("COUNTS", x.month(6, 0), 1);
        C.is("of COUNTRY", x.month(6, 1), 4);
        x.indexes(0, 151);
        C.is("PAY by INDEX", x.month(6, 2), 1359);
        x.sheet(2, 1, 1, 0);
        x.indexes(0, 50);
        C.is("PAY rounded down", x.month(6, 2), 0);
        C.is("COUNTS without PAY", x.month(6, 0), 1);
        C.is("the last MONTH", x.month(359, 0), 0);
        int[][] wrong = {{-1, 0}, {360, 0}, {0, 5}, {0, -1}, {Integer.MIN_VALUE, 0}};
        for (int[] w : wrong) {
            C.throwsNone("month(" + w[0] + ", " + w[1] + ")", () -> x.month(w[0], w[1]));
        }
    }

    private static void by(JoinedMonths x, int... due) {
        for (int m = 0; m < due.length; m++) {
            C.is("SPAN of MONTH " + m, x.month(m, 3), due[m]);
            C.is("COUNTRY of MONTH " + m, x.month(m, 1), x.span(due[m], 0));
        }
    }

    private static void credited() {
        JoinedMonths x = Check.with("bw010010101aw017017100cw025025100");
        for (int m = 11; m < 17; m++) {
            month(x, m, 2, 1, 50, -1, 0);
        }
        for (int m = 18; m < 25; m++) {
            month(x, m, 0, -1, 0, -1, 0);
        }
        month(x, 9, 0, -1, 0, -1, 0);
        month(x, 26, 0, -1, 0, -1, 0);
        x.sets(0, 0);
        month(x, 11, 0, -1, 0, -1, 0);
        x.sets(0, 7);
        month(x, 24, 2, 0, 50, -1, 0);
        x.indexes(0, 99);
        month(x, 12, 2, 1, 49, -1, 0);
        x.indexes(1, 200);
        month(x, 12, 2, 1, 49, -1, 0);
        month(x, 24, 2, 0, 100, -1, 0);
    }

    private static void month(JoinedMonths x, int m, int... due) {
        for (int what = 0; what < due.length; what++) {
            C.is("month(" + m + ", " + what + ")", x.month(m, what), due[what]);
        }
    }

    private static void ownAndTotal() {
        JoinedMonths x = Check.with("aw000009100bw012029201");
        C.is("own(0)", x.own(0), 12);
        C.row("own(0)", x, 10, 2, 91, 12);
        C.is("own(1)", x.own(1), 18);
        C.row("own(1)", x, 18, 0, 201, 18);
        C.is("own(2)", x.own(2), 0);
        C.row("own(2)", x, 0, 0, 0, 0);
        C.is("total()", x.total(), 30);
        C.row("total()", x, (1000 + 100 + 18 * 201) / 30, 1, 0);
        C.is("own(5)", x.own(5), -1);
        C.is("own(-1)", x.own(-1), -1);
        C.row("the ROW stays", x, 157, 1, 0);
        x.sets(1, 13);
        C.is("own(0)", x.own(0), 12);
        C.row("own(0) is too little", x, 10, 2, 91, 0);
        C.is("own(1)", x.own(1), 18);
        C.row("own(1) bears", x, 18, 0, 201, 30);
    }

    private static void lent() {
        JoinedMonths x = Check.with("cw000009100bw010021100dw022033100ew034038100");
        x.total();
        C.row("the first of equal ones bears", x, 100, 1, 15);
        x.own(1);
        C.row("BASE of b", x, 12, 0, 100, 27);
        x.own(3);
        C.row("BASE of d", x, 12, 0, 100, 12);
        x.sets(1, 60);
        x.total();
        C.row("none bears", x, 100, -1, 0);
        x.own(1);
        C.row("BASE of b without BEARER", x, 12, 0, 100, 0);
        x.sets(1, 0);
        x.total();
        C.row("LEAST 0", x, 100, 1, 0);
        x.own(4);
        C.row("BASE of e", x, 5, 0, 100, 5);
        JoinedMonths none = new JoinedMonths();
        none.sets(1, 0);
        none.total();
        C.row("none bears without MONTHS", none, 0, -1, 0);
        JoinedMonths one = Check.with("aw000000100");
        one.sets(1, 1);
        one.total();
        C.row("OWN of 1 is enough", one, 100, 0, 0);
        one.sets(1, 0);
        one.own(0);
        C.row("OWN of 1 is enough", one, 1, 0, 100, 1);
        JoinedMonths most = Check.with("aw000011100bw012024100");
        most.total();
        C.row("the most OWN bears", most, 100, 1, 0);
    }

    private static void year() {
        JoinedMonths x = Check.with("aw000009100bw014014200ew348359300");
        C.is("year(0)", x.year(0), 12);
        C.row("year(0)", x, 12, 0, 0, 0, 0, 1100, 100);
        C.is("year(1)", x.year(1), 3);
        C.row("year(1)", x, 2, 1, 0, 0, 0, 300, 100);
        x.indexes(29, 400);
        C.is("year(29)", x.year(29), 12);
        C.row("year(29)", x, 0, 0, 0, 0, 12, 14400, 400);
        C.is("year(30)", x.year(30), -1);
        C.is("year(-1)", x.year(-1), -1);
        C.row("the ROW stays", x, 0, 0, 0, 0, 12, 14400, 400);
    }

    private static void gaps() {
        JoinedMonths x = Check.with("aw010010100bw012012200cw019019300dw027027300dw028030300");
        C.is("gaps()", x.gaps(), 3);
        C.row("gaps()", x, 11, 1, 1, 13, 6, 1, 20, 7, 0);
        x.sets(0, 0);
        C.is("gaps()", x.gaps(), 3);
        C.row("gaps() without CREDIT", x, 11, 1, 0, 13, 6, 0, 20, 7, 0);
        JoinedMonths one = Check.with("aw010010100");
        one.total();
        C.is("no GAP", one.gaps(), 0);
        C.row("no GAP", one);
        StringBuilder many = new StringBuilder();
        for (int i = 0; i < 20; i++) {
            many.append("aw").append(100 + 2 * i).append(100 + 2 * i).append("001");
        }
        JoinedMonths most = Check.with(many.toString());
        C.is("nineteen GAPS", most.gaps(), 19);
        C.is("nineteen GAPS", most.count(6), 57);
        C.is("the last GAP", most.row(54), 137);
    }

    private static void doubles() {
        JoinedMonths x = Check.with("aw010019100bw015024100cw018018100dw030031100");
        C.is("doubles()", x.doubles(), 5);
        C.row("doubles()", x, 3, 18);
        JoinedMonths single = Check.with("bw015024100aw013013100");
        C.is("none", single.doubles(), 0);
        C.row("none", single, 1, 13);
        JoinedMonths none = new JoinedMonths();
        C.is("none", none.doubles(), 0);
        C.row("none", none, 0, -1);
    }

    private static void pieces() {
        JoinedMonths x = Check.with("av000009100bw003004100aw005005100av012013100aw359359100");
        C.is("pieces()", x.pieces(), 6);
        C.row("pieces()", x, 0, 0, 3, 1, 3, 2, 2, 5, 1, 0, 6, 4, 3, 12, 2, 4, 359, 1);
        JoinedMonths none = new JoinedMonths();
        none.total();
        C.is("none", none.pieces(), 0);
        C.row("none", none);
        StringBuilder many = new StringBuilder("av000359001");
        for (int i = 0; i < 19; i++) {
            many.append("aw").append(100 + 2 * i).append(100 + 2 * i).append("001");
        }
        JoinedMonths most = Check.with(many.toString());
        C.is("as many as can be", most.pieces(), 39);
        C.is("as many as can be", most.count(6), 117);
        C.is("the last piece", most.row(114), 0);
        C.is("the last piece", most.row(115), 137);
        C.is("the last piece", most.row(116), 223);
    }

    private static void both() {
        JoinedMonths x = Check.with("aw010019100bw015024100bv010010100cw000359100aw010012100");
        x.total();
        C.is("both(0, 1)", x.both(0, 1), 6);
        C.is("both(1, 0)", x.both(1, 0), 6);
        C.is("both(1, 2)", x.both(1, 2), 11);
        C.is("both(0, 3)", x.both(0, 3), 0);
        C.is("both(1, 1)", x.both(1, 1), -1);
        C.is("both(-1, 1)", x.both(-1, 1), -1);
        C.is("both(1, 5)", x.both(1, 5), -1);
        C.is("both(5, 5)", x.both(5, 5), -1);
        C.is("the ROW stays", x.count(6), 3);
        JoinedMonths edge = Check.with("aw000000100bw000000100aw359359100bv359359100");
        C.is("the first and the last MONTH", edge.both(0, 1), 2);
    }
}

import java.util.ArrayList;
import java.util.List;

/** Promises 23 to 33 at their edges, sentence by sentence: what would be. */
public final class WouldBeEdgesTest {
    private static final Check C = new Check("WouldBeEdgesTest");

    public static void main(String[] args) {
        lateMore();
        lateMonths();
        lateFull();
        without();
        lawful();
        settled();
        instead();
        insteadFull();
        worth();
        worthOfEqualOnes();
        best();
        bestOfSeveral();
        bestOfAllOrders();
        buysUpTo359();
        buysFromTheFirstOn();
        buysFull();
        buysRefused();
        missing();
        earns();
        part();
        partInLowestTerms();
        C.end();
    }

    private static void lateMore() {
        C.says("Promise 23: 100000 and what that is more than ALL now");
        JoinedMonths none = new JoinedMonths();
        C.is("without SPANS, a MONTH too few", none.late(0, 0, 0, 58, 100), 100000);
        C.is("without SPANS, as many as NEEDED", none.late(0, 0, 0, 59, 100), 100612);
        C.is("all MONTHS", none.late(4, 3, 0, 359, 999), 100000 + 3600 + 360 * 20 * 999 / 10000);
        JoinedMonths x = Check.with("av000059100");
        // TOTAL stays 60, WAGE becomes (59 + 100) / 60: 600 in all, where it was 612.
        C.is("less than now", x.late(1, 0, 0, 58, 1), 100000 - 12);
        C.is("nothing at all", x.late(0, 3, 0, 59, 99), 100000);
    }

    private static void lateMonths() {
        C.says("Promise 23: MONTHS that would be another way (of which COUNTRY, with which PAY, or at all)");
        JoinedMonths none = new JoinedMonths();
        none.late(0, 0, 0, 0, 1);
        C.row("the first MONTH", none, 1, 0, 0);
        none.late(0, 0, 359, 359, 1);
        C.row("the last MONTH", none, 1, 359, 359);
        none.late(0, 0, 0, 359, 1);
        C.row("all MONTHS", none, 360, 0, 359);
        JoinedMonths x = Check.with("bw000009100bw020029100");
        x.late(0, 0, 3, 5, 100);
        C.row("another COUNTRY alone", x, 3, 3, 5);
        x.late(1, 0, 3, 5, 101);
        C.row("another PAY alone", x, 3, 3, 5);
        x.late(1, 0, 3, 5, 100);
        C.row("another SPAN alone", x, 0, -1, -1);
        x.late(2, 0, 3, 5, 100);
        C.row("a SPAN that does not COUNT", x, 0, -1, -1);
        x.late(1, 0, 13, 13, 100);
        C.row("two GAPS become short", x, 10, 10, 19);
        x.late(1, 0, 12, 12, 100);
        C.row("one GAP becomes short", x, 3, 10, 12);
        x.late(1, 0, 9, 20, 101);
        C.row("from one SPAN into another", x, 12, 9, 20);
        JoinedMonths zero = new JoinedMonths();
        zero.indexes(0, 50);
        zero.late(0, 0, 5, 5, 1);
        C.row("at all, with PAY 0", zero, 1, 5, 5);
        JoinedMonths ends = Check.with("aw000000100aw002002100");
        ends.late(0, 0, 0, 0, 102);
        C.row("the MONTH and the CREDITED one behind it", ends, 2, 0, 1);
        ends.late(0, 0, 1, 1, 50);
        C.row("a CREDITED one COUNTS, of like COUNTRY and PAY", ends, 0, -1, -1);
        ends.late(0, 0, 1, 1, 51);
        C.row("a CREDITED one COUNTS with another PAY", ends, 1, 1, 1);
        ends.late(1, 0, 1, 1, 50);
        C.row("a CREDITED one COUNTS for another COUNTRY", ends, 1, 1, 1);
    }

    private static void lateFull() {
        C.says("Promise 23: -3: there are 20 SPANS");
        JoinedMonths x = Check.withSpans(19);
        C.yes("with 19", x.late(0, 0, 0, 359, 999) > 0);
        C.row("with 19", x, 360, 0, 359);
        x.comes(0, 0, 0, 0, 1);
        C.is("with 20", x.late(0, 0, 0, 359, 999), -3);
        C.row("the ROW stays", x, 360, 0, 359);
        x.goes(0);
        C.yes("with 19 again", x.late(0, 0, 0, 359, 999) > 0);
    }

    private static void without() {
        C.says("Promise 24: ALL without SPAN k, likewise. NONE: none such");
        JoinedMonths none = new JoinedMonths();
        C.is("without SPANS", none.without(0), -1);
        JoinedMonths one = Check.with("aw000059100");
        C.is("the only one", one.without(0), 100000 - 612);
        C.row("the only one", one, 60, 0, 59);
        C.is("without(1)", one.without(1), -1);
        C.is("without(-1)", one.without(-1), -1);
        C.row("the ROW stays", one, 60, 0, 59);
        JoinedMonths more = Check.with("av000059900aw000059100");
        C.is("ALL is more without it", more.without(1), 100000 + 708 - 612);
        C.row("ALL is more without it", more, 60, 0, 59);
        C.is("one that does not COUNT", more.without(0), 100000);
        C.row("one that does not COUNT", more, 0, -1, -1);
        JoinedMonths full = Check.withSpans(20);
        C.is("the last of 20", full.without(19), 100000);
        C.row("the last of 20", full, 1, 190, 190);
        C.is("without(20)", full.without(20), -1);
    }

    private static void lawful() {
        C.says("Promise 25: ALL, were one number of a LAW v, likewise. NONE: others");
        JoinedMonths x = Check.with("aw000059100");
        int[][] due = {{0, 1, 0}, {0, 60, 0}, {0, 61, -612}, {0, 240, -612}, {1, 0, -600}, {1, 10, 0}, {1, 99, 60 * 89},
            {2, 0, -12}, {2, 20, 0}, {2, 99, 59 - 12}, {3, 0, 0}, {3, 359, 0}};
        for (int[] d : due) {
            C.is("lawful(0, " + d[0] + ", " + d[1] + ")", x.lawful(0, d[0], d[1]), 100000 + d[2]);
            C.row("no MONTH is another way", x, 0, -1, -1);
            C.is("of a COUNTRY without MONTHS", x.lawful(4, d[0], d[1]), 100000);
        }
        int[][] wrong = {{0, 0, 0}, {0, 0, 241}, {0, 1, -1}, {0, 1, 100}, {0, 2, -1}, {0, 2, 100}, {0, 3, -1}, {0, 3, 360},
            {-1, 0, 1}, {5, 0, 1}, {0, -1, 1}, {0, 4, 1}};
        x.total();
        for (int[] w : wrong) {
            C.is("lawful(" + w[0] + ", " + w[1] + ", " + w[2] + ")", x.lawful(w[0], w[1], w[2]), -1);
        }
        C.row("the ROW stays", x, 100, 0, 0);
        C.is("the LAW stays", x.law(0, 1), 10);
    }

    private static void settled() {
        C.says("Promise 26: ALL, were CREDIT c and LEAST l, likewise. NONE: others");
        JoinedMonths x = Check.with("aw000029100aw054083100bw085095100");
        // OWN of a 61, of b 11; with CREDIT 24 OWN of a 85.
        C.is("as it is", x.settled(6, 12), 100000);
        C.row("as it is", x, 0, -1, -1);
        int all = x.count(4);
        x.settled(0, 12);
        C.row("CREDIT 0", x, 1, 84, 84);
        x.settled(1, 12);
        C.row("CREDIT 1", x, 0, -1, -1);
        x.settled(23, 12);
        C.row("CREDIT 23", x, 0, -1, -1);
        x.settled(24, 12);
        C.row("CREDIT 24", x, 24, 30, 53);
        C.is("LEAST 11 and both together", x.settled(24, 11), allAfter(x, 24, 11) + 100000 - all);
        C.row("LEAST 11 and both together", x, 24, 30, 53);
        C.is("LEAST 0", x.settled(6, 0), allAfter(x, 6, 0) + 100000 - all);
        C.is("LEAST 60", x.settled(6, 60), allAfter(x, 6, 60) + 100000 - all);
        C.is("CREDIT 0, LEAST 60", x.settled(0, 60), allAfter(x, 0, 60) + 100000 - all);
        x.total();
        int[][] wrong = {{-1, 12}, {25, 12}, {6, -1}, {6, 61}, {-1, -1}, {25, 61}};
        for (int[] w : wrong) {
            C.is("settled(" + w[0] + ", " + w[1] + ")", x.settled(w[0], w[1]), -1);
        }
        C.is("the ROW stays", x.row(1), 0);
        C.is("CREDIT stays", x.count(1), 6);
        C.is("LEAST stays", x.count(2), 12);
    }

    private static int allAfter(JoinedMonths x, int credit, int least) {
        x.keep(0);
        x.sets(0, credit);
        x.sets(1, least);
        int all = x.count(4);
        x.again(0);
        return all;
    }

    private static void instead() {
        C.says("Promise 27: Such a SPAN, and SPAN k not there: as late(), which is asked first; NONE, too: no such SPAN k");
        JoinedMonths none = new JoinedMonths();
        C.is("without SPANS", none.instead(0, 0, 0, 0, 0, 1), -1);
        JoinedMonths only = Check.with("aw000058100");
        C.is("of the only SPAN", only.instead(0, 1, 0, 100, 159, 100), 100612);
        C.row("of the only SPAN", only, 119, 0, 159);
        JoinedMonths x = Check.with("aw000058100bw100111100");
        C.is("one MONTH more", x.instead(0, 0, 0, 0, 59, 100), 100000 + after(x, 0, "+aw000059100") - x.count(4));
        x.instead(0, 0, 0, 0, 59, 100);
        C.row("one MONTH more", x, 1, 59, 59);
        C.is("the same", x.instead(0, 0, 0, 0, 58, 100), 100000);
        C.row("the same", x, 0, -1, -1);
        C.is("the other one", x.instead(1, 0, 0, 0, 59, 100), 100000 + after(x, 1, "+aw000059100") - x.count(4));
        x.instead(1, 0, 0, 0, 59, 100);
        C.row("the other one", x, 13, 59, 111);
        for (int k : new int[] {-1, 2, 20, Integer.MIN_VALUE, Integer.MAX_VALUE}) {
            C.is("instead(" + k + ")", x.instead(k, 0, 0, 0, 59, 100), -1);
        }
        C.row("the ROW stays", x, 13, 59, 111);
        C.is("both are there", x.count(0), 2);
        C.is("both are there", x.span(1, 0), 1);
    }

    private static int after(JoinedMonths x, int k, String act) {
        Check.day(x, "-0" + k + act);
        int all = x.count(4);
        x.undo();
        return all;
    }

    private static void insteadFull() {
        C.says("Promise 27: (With 20 SPANS it may be.)");
        JoinedMonths x = Check.withSpans(20);
        for (int k = 0; k < 20; k++) {
            C.is("with 20", x.instead(k, 0, 0, 350, 351, 7), 100000);
            C.row("with 20", x, 3, 10 * k, 351);
        }
        C.is("with 20, no such SPAN k", x.instead(20, 0, 0, 350, 351, 7), -1);
        C.is("with 20, no such SPAN", x.instead(0, 0, 0, 351, 350, 7), -1);
        C.is("20 there are", x.count(0), 20);
    }

    private static void worth() {
        C.says("Promise 28: in the order of what ALL loses without each alone, the most first: how many; the ROW: they");
        JoinedMonths none = new JoinedMonths();
        none.total();
        C.is("without SPANS", none.worth(), 0);
        C.row("without SPANS", none);
        JoinedMonths one = Check.with("aw000000001");
        C.is("one that is worth nothing", one.worth(), 1);
        C.row("one that is worth nothing", one, 0);
        // SPAN 3 is worth most, 2 a little, 1 nothing (it does not COUNT), and without 0 ALL would be more.
        JoinedMonths x = Check.with("aw000059001av000059900bw100100001aw200259500");
        C.yes("without(2) is less", x.without(2) < 100000 && x.without(2) > x.without(3));
        C.is("without(1) is the same", x.without(1), 100000);
        C.yes("without(0) is more", x.without(0) > 100000);
        C.is("four", x.worth(), 4);
        C.row("the one that takes is the last", x, 3, 2, 1, 0);
    }

    private static void worthOfEqualOnes() {
        C.says("Promise 28: (of equal ones the least number)");
        JoinedMonths x = new JoinedMonths();
        for (int k = 0; k < 20; k++) {
            x.comes(0, 0, 3 * k, 3 * k + 2, 100);
        }
        x.sets(0, 0);
        C.is("20 alike", x.worth(), 20);
        C.row("20 alike", x, 0, 1, 2, 3, 4, 5, 6, 7, 8, 9, 10, 11, 12, 13, 14, 15, 16, 17, 18, 19);
        JoinedMonths y = new JoinedMonths();
        for (int k = 0; k < 20; k++) {
            y.comes(0, 0, 10 * k, 10 * k + 3 + k % 2, 100);
        }
        y.becomes(0, 0, 1);
        y.sets(0, 0);
        C.is("two and two alike", y.worth(), 20);
        C.row("two and two alike", y, 1, 3, 5, 7, 9, 11, 13, 15, 17, 19, 0, 2, 4, 6, 8, 10, 12, 14, 16, 18);
    }

    private static void best() {
        C.says("Promise 29: The order of KINDS by which ALL is greatest: ALL then; the ROW: KINDS in that order");
        JoinedMonths none = new JoinedMonths();
        C.is("without SPANS", none.best(), 0);
        C.row("without SPANS: c, s, v, w", none, 2, 1, 3, 0);
        JoinedMonths x = Check.with("aw000059100av000059900");
        C.is("v ahead of w", x.best(), 708);
        C.row("c, s, v, w", x, 2, 1, 3, 0);
        C.is("RANKS stay", x.count(3), 123);
        C.is("ALL stays", x.count(4), 612);
        Check.ranks(x, "vwcs");
        C.is("whatever RANKS are", x.best(), 708);
        C.row("whatever RANKS are", x, 2, 1, 3, 0);
    }

    private static List<String> orders() {
        List<String> out = new ArrayList<>();
        for (char a : "csvw".toCharArray()) {
            for (char b : "csvw".toCharArray()) {
                for (char c : "csvw".toCharArray()) {
                    for (char d : "csvw".toCharArray()) {
                        if (a != b && a != c && a != d && b != c && b != d && c != d) {
                            out.add("" + a + b + c + d);
                        }
                    }
                }
            }
        }
        return out;
    }

    private static void bestIs(String what, JoinedMonths x, String order) {
        long[] due = new long[4];
        for (int i = 0; i < 4; i++) {
            due[i] = "wscv".indexOf(order.charAt(i));
        }
        int all = x.best();
        C.row(what + ": " + order, x, due);
        Check.ranks(x, order);
        C.is(what + ": ALL then", x.count(4), all);
    }

    private static void bestOfSeveral() {
        C.says("Promise 29: (of several the first, by letters c, s, v, w at the first unlike place)");
        C.is("24 orders", orders().size(), 24);
        for (char first : "csvw".toCharArray()) {
            for (char second : "csvw".toCharArray()) {
                if (first == second) {
                    continue;
                }
                JoinedMonths x = Check.with("a" + first + "000059900a" + second + "000059100");
                String due = null;
                for (String order : orders()) {
                    due = due == null && order.indexOf(first) < order.indexOf(second) ? order : due;
                }
                bestIs(first + " ahead of " + second, x, due);
            }
        }
    }

    private static void bestOfAllOrders() {
        C.says("Promise 29: The order of KINDS by which ALL is greatest");
        for (String order : orders()) {
            StringBuilder spans = new StringBuilder();
            for (int i = 0; i < 3; i++) {
                String months = new String[] {"000059", "100159", "200259"}[i];
                spans.append("a").append(order.charAt(i)).append(months).append("900");
                spans.append("a").append(order.charAt(i + 1)).append(months).append("100");
            }
            bestIs("one alone", Check.with(spans.toString()), order);
        }
    }

    private static void buysUpTo359() {
        C.says("Promise 30: n of them, one by one the first ones (up to MONTH 359); the ROW: how many there were");
        for (int last = 333; last <= 359; last++) {
            JoinedMonths x = new JoinedMonths();
            x.comes(0, 0, last, last, 100);
            for (int n : new int[] {1, 23, 24}) {
                x.buys(0, n, 100);
                C.row("behind MONTH " + last, x, Math.min(n, 359 - last));
            }
        }
        JoinedMonths all = Check.with("aw000359100");
        C.is("none is left", all.buys(0, 1, 1), 100000);
        C.row("none is left", all, 0);
    }

    private static void buysFromTheFirstOn() {
        C.says("Promise 30: MONTHS that neither COUNT nor are CREDITED, from the first one that a SPAN covers on");
        JoinedMonths x = Check.with("aw300358100");
        C.is("none ahead of the first", x.buys(0, 24, 100), 100612);
        C.row("none ahead of the first", x, 1);
        JoinedMonths gap = Check.with("aw000000100aw007007100aw015359100");
        gap.buys(0, 24, 1);
        C.row("none that is CREDITED", gap, 7);
        gap.sets(0, 5);
        gap.buys(0, 24, 1);
        C.row("those of both GAPS", gap, 13);
        JoinedMonths first = Check.with("bw000058100aw060359100");
        first.sets(0, 0);
        int all = first.count(4);
        int due = after(first, "+bv059059007");
        C.is("of a COUNTRY, with PAY p", first.buys(1, 1, 7), 100000 + due - all);
        C.row("of a COUNTRY, with PAY p", first, 1);
        int other = after(first, "+cv059059999");
        C.is("of another COUNTRY", first.buys(2, 24, 999), 100000 + other - all);
        C.is("nothing has come", first.count(0), 2);
        C.is("nothing has come", first.month(59, 0), 0);
    }

    private static int after(JoinedMonths x, String act) {
        Check.day(x, act);
        int all = x.count(4);
        x.undo();
        return all;
    }

    private static void buysFull() {
        C.says("Promise 30: (they may be more than 20)");
        JoinedMonths x = new JoinedMonths();
        for (int k = 0; k < 20; k++) {
            x.comes(0, 0, 2 * k, 2 * k, 100);
        }
        x.sets(0, 0);
        C.is("19 within, 5 behind", x.buys(0, 24, 100), 100000);
        C.row("19 within, 5 behind", x, 24);
        x.becomes(0, 0, 44);
        C.is("44 MONTHS", x.buys(0, 24, 100), 100000 + 440 + 44 * 20 * 100 / 10000);
        x.becomes(0, 0, 45);
        C.is("not 45", x.buys(0, 24, 100), 100000);
        C.is("20 there are", x.count(0), 20);
    }

    private static void buysRefused() {
        C.says("Promise 30: -2: there are no SPANS; NONE: others");
        JoinedMonths none = new JoinedMonths();
        C.is("without SPANS", none.buys(0, 1, 1), -2);
        C.is("without SPANS", none.buys(4, 24, 999), -2);
        C.is("no ROW", none.count(6), 0);
        none.comes(0, 0, 0, 0, 1);
        C.is("with one", none.buys(0, 1, 1), 100000);
        none.goes(0);
        C.is("without it", none.buys(0, 1, 1), -2);
        C.row("the ROW stays", none, 1);
    }

    private static void missing() {
        C.says("Promise 31: How many MONTHS OWN is short of NEEDED; the ROW: how many TOTAL is");
        JoinedMonths none = new JoinedMonths();
        none.becomes(4, 0, 240);
        C.is("without SPANS", none.missing(4), 240);
        C.row("without SPANS", none, 240);
        JoinedMonths x = Check.with("aw000058100bw059059100");
        C.is("one is missing", x.missing(0), 1);
        C.row("TOTAL is enough", x, 0);
        x.becomes(0, 0, 59);
        C.is("none is missing", x.missing(0), 0);
        x.becomes(0, 0, 58);
        C.is("more than enough", x.missing(0), 0);
        C.row("more than enough", x, 0);
        x.becomes(0, 0, 61);
        C.is("two are missing", x.missing(0), 2);
        C.row("one is missing of TOTAL", x, 1);
        C.is("missing(-1)", x.missing(-1), -1);
        C.is("missing(5)", x.missing(5), -1);
        C.row("the ROW stays", x, 1);
    }

    private static void earns() {
        C.says("Promise 32: The first MONTH up to which (with it) OWN is NEEDED or more. -2: none");
        JoinedMonths none = new JoinedMonths();
        none.becomes(0, 0, 1);
        C.is("without SPANS", none.earns(0), -2);
        JoinedMonths x = Check.with("aw000359100");
        for (int needed : new int[] {1, 2, 60, 240}) {
            x.becomes(0, 0, needed);
            C.is("NEEDED " + needed, x.earns(0), needed - 1);
        }
        JoinedMonths last = Check.with("cw350359100");
        last.becomes(2, 0, 10);
        C.is("the last MONTH", last.earns(2), 359);
        last.becomes(2, 0, 11);
        C.is("none", last.earns(2), -2);
        C.is("none of another", last.earns(1), -2);
        JoinedMonths credited = Check.with("cw000000100dw002002100cw004004100");
        credited.becomes(2, 0, 2);
        C.is("a CREDITED one", credited.earns(2), 1);
        credited.becomes(2, 0, 3);
        C.is("behind d", credited.earns(2), 4);
        C.is("earns(-1)", credited.earns(-1), -1);
        C.is("earns(5)", credited.earns(5), -1);
    }

    private static void part(JoinedMonths x, int country, int m, long upper, long lower) {
        C.is("part(" + country + ", " + m + ")", x.part(country, m), 0);
        C.row("part(" + country + ", " + m + ")", x, upper, lower);
    }

    private static void part() {
        C.says("Promise 33: OWN up to MONTH m (with it), of TOTAL up to it. -2: TOTAL up to it is 0");
        C.is("without SPANS", new JoinedMonths().part(0, 359), -2);
        JoinedMonths x = Check.with("aw001001100bw003003100");
        C.is("ahead of all", x.part(0, 0), -2);
        C.is("no ROW", x.count(6), 0);
        part(x, 0, 1, 1, 1);
        part(x, 1, 1, 0, 1);
        part(x, 0, 2, 1, 1);
        part(x, 0, 3, 2, 3);
        part(x, 1, 3, 1, 3);
        part(x, 1, 359, 1, 3);
        part(x, 4, 359, 0, 1);
        C.is("ahead of all", x.part(0, 0), -2);
        C.row("the ROW stays", x, 0, 1);
        JoinedMonths first = Check.with("ew000000100");
        part(first, 4, 0, 1, 1);
        JoinedMonths last = Check.with("ew359359100");
        C.is("ahead of the last MONTH", last.part(4, 358), -2);
        part(last, 4, 359, 1, 1);
    }

    private static void partInLowestTerms() {
        C.says("Promise 33: a part in lowest terms");
        JoinedMonths x = Check.with("aw000179100bw180359100");
        part(x, 0, 359, 1, 2);
        part(x, 1, 359, 1, 2);
        part(x, 0, 179, 1, 1);
        part(x, 1, 179, 0, 1);
        part(x, 0, 180, 180, 181);
        part(x, 1, 180, 1, 181);
        part(x, 0, 269, 2, 3);
        part(x, 1, 269, 1, 3);
        part(x, 0, 358, 180, 359);
        JoinedMonths fib = Check.with("aw000143100bw144232100");
        part(fib, 0, 232, 144, 233);
        part(fib, 1, 232, 89, 233);
    }
}

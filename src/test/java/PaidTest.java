/** Promises 18 to 22: national, theoretical, paid, at, most. */
public final class PaidTest {
    private static final Check C = new Check("PaidTest");

    public static void main(String[] args) {
        nationalAlone();
        sharedIsBetter();
        lentMonthsArePaid();
        at();
        most();
        C.end();
    }

    private static void nationalAlone() {
        JoinedMonths x = Check.with("aw000058100");
        C.is("OWN below NEEDED", x.national(0), 0);
        x.lasts(0, 0, 59);
        C.is("OWN is NEEDED", x.national(0), 60 * 10 + 60 * 20 * 100 / 10000);
        C.is("none OWN", x.national(1), 0);
        x.becomes(1, 0, 1);
        C.is("none OWN, NEEDED 1", x.national(1), 0);
        x.becomes(0, 1, 0);
        x.becomes(0, 2, 99);
        C.is("without FLAT", x.national(0), 59);
        x.becomes(0, 2, 0);
        x.becomes(0, 1, 99);
        C.is("without PART", x.national(0), 5940);
        C.is("paid", x.paid(0), 5940);
        C.row("alike: NATIONAL", x, 1);
        C.is("national(5)", x.national(5), -1);
        C.is("national(-1)", x.national(-1), -1);
        C.row("the ROW stays", x, 1);
    }

    private static void sharedIsBetter() {
        JoinedMonths x = Check.with("aw000029100bw030089300");
        // TOTAL 90, WAGE (3000 + 18000) / 90 = 233; THEORETICAL 900 + 90 * 20 * 233 / 10000.
        C.is("theoretical(0)", x.theoretical(0), 941);
        C.row("SHARED of a", x, 941 * 30 / 90);
        C.is("theoretical(1)", x.theoretical(1), 941);
        C.row("SHARED of b", x, 941 * 60 / 90);
        C.is("national(0)", x.national(0), 0);
        C.is("national(1)", x.national(1), 636);
        C.is("paid(0)", x.paid(0), 313);
        C.row("paid(0)", x, 2);
        C.is("paid(1)", x.paid(1), 636);
        C.row("paid(1)", x, 1);
        C.is("paid(2)", x.paid(2), 0);
        C.row("paid(2)", x, 0);
        C.is("ALL", x.count(4), 949);
        x.becomes(0, 0, 91);
        C.is("TOTAL below NEEDED", x.theoretical(0), 0);
        C.row("TOTAL below NEEDED", x, 0);
        x.becomes(0, 0, 90);
        C.is("TOTAL is NEEDED", x.theoretical(0), 941);
        C.is("theoretical(2) without BASE", x.theoretical(2), 0);
        C.row("theoretical(2) without BASE", x, 0);
        C.is("theoretical(5)", x.theoretical(5), -1);
        C.is("theoretical(-1)", x.theoretical(-1), -1);
        C.is("paid(5)", x.paid(5), -1);
        C.is("paid(-1)", x.paid(-1), -1);
        C.row("the ROW stays", x, 0);
    }

    private static void lentMonthsArePaid() {
        JoinedMonths x = Check.with("aw000010100bw011070100");
        C.is("paid(0): too few", x.paid(0), 0);
        C.is("theoretical(1)", x.theoretical(1), 710 + 71 * 20 * 100 / 10000);
        C.row("SHARED with the lent ones", x, 724);
        C.is("paid(1)", x.paid(1), 724);
        C.row("paid(1)", x, 2);
        x.sets(1, 11);
        C.is("paid(0): no longer", x.paid(0), 724 * 11 / 71);
        C.row("paid(0): no longer", x, 2);
    }

    private static void at() {
        JoinedMonths x = Check.with("aw000029100bw030089300");
        x.becomes(1, 3, 299);
        x.becomes(4, 3, 0);
        C.is("at(300)", x.at(300), 949);
        C.row("at(300)", x, 31, 949);
        C.is("at(299)", x.at(299), 636);
        C.row("at(299)", x, 18, 949);
        C.is("at(0)", x.at(0), 0);
        C.row("at(0)", x, 16, 949);
        C.is("at(359)", x.at(359), 949);
        C.is("at(360)", x.at(360), -1);
        C.is("at(-1)", x.at(-1), -1);
        C.row("the ROW stays", x, 31, 949);
    }

    private static void most() {
        JoinedMonths x = Check.with("aw000029100bw030089300");
        C.is("most()", x.most(), 1);
        C.row("most()", x, 636, 63600 / 949);
        x.goes(1);
        C.is("ALL is 0", x.most(), -2);
        C.row("the ROW stays", x, 636, 67);
        JoinedMonths equal = Check.with("cw000059100bw060119100");
        C.is("the first of equal ones", equal.most(), 1);
        C.row("the first of equal ones", equal, 612, 50);
    }
}

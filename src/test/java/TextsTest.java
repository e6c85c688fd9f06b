/** Promises 1 to 7: a new object, sign, end, spans, laws, ranks, sheet. */
public final class TextsTest {
    private static final Check C = new Check("TextsTest");

    public static void main(String[] args) {
        newObject();
        signAndEnd();
        spans();
        spansFaults();
        laws();
        lawsFaults();
        ranks();
        sheet();
        C.end();
    }

    private static void newObject() {
        JoinedMonths x = new JoinedMonths();
        int[] due = {0, 6, 12, 123, 0, 0, 0, 0, 0};
        for (int what = 0; what < due.length; what++) {
            C.is("new count(" + what + ")", x.count(what), due[what]);
        }
        int[] law = {60, 10, 20, 300};
        for (int country = 0; country < 5; country++) {
            for (int what = 0; what < 4; what++) {
                C.is("new law", x.law(country, what), law[what]);
            }
        }
        for (int y = 0; y < 30; y++) {
            x.year(y);
            C.row("new year", x, 0, 0, 0, 0, 0, 0, 100);
        }
        C.throwsNone("new span", () -> x.span(0, 0));
        JoinedMonths fresh = new JoinedMonths();
        C.throwsNone("new row", () -> fresh.row(0));
        C.no("new again(0)", x.again(0));
        C.no("new again(1)", x.again(1));
    }

    private static void signAndEnd() {
        JoinedMonths x = new JoinedMonths();
        for (int i = 1; i <= 20; i++) {
            C.is("sign", x.sign(-1), 4 * i);
        }
        C.is("sign too many", x.sign(0), -1);
        C.is("still 80", x.count(7), 80);
        C.no("end(81)", x.end(81));
        C.no("end(-1)", x.end(-1));
        C.no("end of the least int", x.end(Integer.MIN_VALUE));
        C.yes("end(80)", x.end(80));
        C.yes("end(77)", x.end(77));
        C.is("sign behind 77", x.sign(0), -1);
        C.is("still 77", x.count(7), 77);
        C.yes("end(76)", x.end(76));
        C.is("sign behind 76", x.sign(0), 80);
        C.yes("end(0)", x.end(0));
        C.is("emptied", x.count(7), 0);
        C.no("end(1) of an empty one", x.end(1));
        x.sign(0x61773030);
        x.sign(0x30303030);
        x.sign(0x31303100);
        x.end(11);
        C.is("the highest byte comes first", x.spans(), 1);
        C.is("PAY as told", x.span(0, 4), 101);
    }

    private static void spans() {
        JoinedMonths x = new JoinedMonths();
        C.is("empty spans()", x.spans(), 0);
        C.is("two", Check.spans(x, "ev000359999aw010010001"), 2);
        C.is("THE TEXT is emptied", x.count(7), 0);
        int[][] due = {{4, 3, 0, 359, 999, 359}, {0, 0, 10, 10, 1, 1}};
        for (int k = 0; k < 2; k++) {
            for (int what = 0; what < 6; what++) {
                C.is("span(" + k + ", " + what + ")", x.span(k, what), due[k][what]);
            }
        }
        C.is("behind those that there are", Check.spans(x, "bs000001002cc000001002dv000001002"), 5);
        C.is("KIND s", x.span(2, 1), 1);
        C.is("KIND c", x.span(3, 1), 2);
        C.is("COUNTRY d", x.span(4, 0), 3);
        C.is("empty spans() with five", x.spans(), 5);
        C.is("all four are kept, as none was refused", x.count(5), 4);
    }

    private static void spansFaults() {
        JoinedMonths x = new JoinedMonths();
        String[] texts = {"f", "A", "ax", "a", "aw36", "aw360", "aw3a0", "aw35:", "aw010009", "aw010360", "aw010010000",
            "aw01001000", "aw010010100b", "aw010010100bw000000001x", "aw010010100 ", "aw/00", "aw0100101\377"};
        int[] at = {0, 0, 1, 1, 4, 4, 3, 4, 7, 7, 10, 10, 12, 22, 11, 2, 9};
        for (int i = 0; i < texts.length; i++) {
            C.is("spans() of " + texts[i], Check.spans(x, texts[i]), -1 - at[i]);
            C.is("THE TEXT is emptied by " + texts[i], x.count(7), 0);
            C.is("nothing comes by " + texts[i], x.count(0), 0);
        }
        C.is("nothing kept", x.count(5), 0);
        for (int i = 0; i < 19; i++) {
            x.comes(0, 0, 0, 0, 1);
        }
        C.is("the 21st", Check.spans(x, "aw000000001aw000000001"), -12);
        C.is("the 21st, with a wrong sign", Check.spans(x, "aw000000001!"), -12);
        C.is("19 stay", x.count(0), 19);
        C.is("the 20th", Check.spans(x, "aw000000001"), 20);
        C.is("none behind 20", Check.spans(x, "aw000000001"), -1);
        C.is("empty with 20", Check.spans(x, ""), 20);
    }

    private static void laws() {
        JoinedMonths x = new JoinedMonths();
        C.is("empty laws()", x.laws(), 0);
        C.is("laws()", Check.laws(x, "e0010000000a2409999359e0020102003"), 3);
        C.is("THE TEXT is emptied", x.count(7), 0);
        int[][] due = {{240, 99, 99, 359}, {60, 10, 20, 300}, {60, 10, 20, 300}, {60, 10, 20, 300}, {2, 1, 2, 3}};
        for (int country = 0; country < 5; country++) {
            for (int what = 0; what < 4; what++) {
                C.is("law(" + country + ", " + what + ")", x.law(country, what), due[country][what]);
            }
        }
        C.is("undone", x.undo(), 1);
        C.is("the old law", x.law(0, 0), 60);
        C.is("the old law of e", x.law(4, 3), 300);
    }

    private static void lawsFaults() {
        JoinedMonths x = new JoinedMonths();
        String[] texts = {"f", "a000", "a241", "a24", "a240x", "a2409", "a24099", "a240991", "a2409911360", "a2409911", "a240991135x", "b0010000000c", "b0010000000g", "b0010000000b000"};
        int[] at = {0, 3, 3, 3, 4, 5, 6, 7, 10, 8, 10, 12, 11, 14};
        for (int i = 0; i < texts.length; i++) {
            C.is("laws() of " + texts[i], Check.laws(x, texts[i]), -1 - at[i]);
            C.is("THE TEXT is emptied by " + texts[i], x.count(7), 0);
        }
        for (int what = 0; what < 4; what++) {
            C.is("nothing changes", x.law(1, what), new int[] {60, 10, 20, 300}[what]);
        }
        C.is("nothing kept", x.count(5), 0);
    }

    private static void ranks() {
        JoinedMonths x = new JoinedMonths();
        C.is("all are moved", Check.ranks(x, "vcsw"), 4);
        C.is("RANKS", x.count(3), 3210);
        C.is("none is moved", Check.ranks(x, "vcsw"), 0);
        C.is("two are moved", Check.ranks(x, "vscw"), 2);
        C.is("RANKS", x.count(3), 3120);
        C.is("three are moved", Check.ranks(x, "cvsw"), 3);
        C.is("kept", x.count(5), 4);
        C.is("undone", x.undo(), 3);
        C.is("RANKS", x.count(3), 3120);
        String[] texts = {"", "w", "wsc", "x", "ww", "wsw", "wscw", "wscvx", "wscvw", "wsCv"};
        int[] at = {0, 1, 3, 0, 1, 2, 3, 4, 4, 2};
        for (int i = 0; i < texts.length; i++) {
            C.is("ranks() of " + texts[i], Check.ranks(x, texts[i]), -1 - at[i]);
            C.is("THE TEXT is emptied by " + texts[i], x.count(7), 0);
            C.is("RANKS stay", x.count(3), 3120);
        }
        C.is("kept", x.count(5), 3);
    }

    private static void sheet() {
        JoinedMonths x = Check.with("aw000000500aw000000500aw000000500aw000000500");
        x.total();
        int[][] refused = {{-1, 0, -1}, {4, 0, -1}, {4, -1, -1}, {0, 21, -1}, {3, 21, -1}, {3, 20, -3}, {3, -1, -3},
            {0, -1, -2}, {1, Integer.MIN_VALUE, -2}, {2, -1, -2}};
        for (int[] r : refused) {
            C.is("sheet(" + r[0] + ", " + r[1] + ")", x.sheet(r[0], r[1], 7, 0), r[2]);
        }
        pays(x, 500, 500, 500, 500);
        C.is("no entries", x.sheet(2, 0, 7, 1), 0);
        pays(x, 500, 500, 500, 500);
        C.is("bytes", x.sheet(0, 3, 127, 1), 3);
        pays(x, 127, 1, 1, 500);
        C.is("shorts", x.sheet(1, 4, 32767, -32766), 2);
        pays(x, 999, 1, 1, 5);
        C.is("ints", x.sheet(2, 20, 998, 1), 4);
        pays(x, 998, 999, 999, 999);
        C.is("ints that wrap", x.sheet(2, 3, Integer.MAX_VALUE, 1), 3);
        pays(x, 999, 1, 1, 999);
        C.is("those behind the last entry stay", x.sheet(2, 1, 0, 1), 1);
        pays(x, 1, 1, 1, 999);
        C.is("PAY of the MONTH", x.month(0, 2), 999);
        C.is("none of it is kept", x.count(5), 1);
        C.is("20 entries, 4 SPANS", x.sheet(1, 20, 65536 + 7, 0), 4);
        pays(x, 7, 7, 7, 7);
        C.is("the ROW stays", x.count(6), 3);
    }

    private static void pays(JoinedMonths x, int... due) {
        for (int k = 0; k < due.length; k++) {
            C.is("PAY of " + k, x.span(k, 4), due[k]);
        }
    }
}

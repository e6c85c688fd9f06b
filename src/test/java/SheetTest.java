/** Promise 7 at its edges, sentence by sentence. */
public final class SheetTest {
    private static final Check C = new Check("SheetTest");

    public static void main(String[] args) {
        heldTo();
        bytes();
        shorts();
        ints();
        intsThatWrap();
        entries();
        howMany();
        nothingIsKept();
        answersBelowZero();
        C.end();
    }

    private static void sheet(int kind, int f, int step, int... due) {
        JoinedMonths x = new JoinedMonths();
        for (int k = 0; k < due.length; k++) {
            x.comes(0, 0, k, k, 500);
        }
        int changed = 0;
        for (int v : due) {
            changed += v == 500 ? 0 : 1;
        }
        String what = "sheet(" + kind + ", " + due.length + ", " + f + ", " + step + ")";
        C.is(what, x.sheet(kind, due.length, f, step), changed);
        for (int k = 0; k < due.length; k++) {
            C.is(what + ", entry " + k, x.span(k, 4), due[k]);
            C.is(what + ", PAY of MONTH " + k, x.month(k, 2), due[k]);
        }
    }

    private static void heldTo() {
        C.says("Promise 7: held to 1 .. 999");
        for (int kind = 1; kind <= 2; kind++) {
            sheet(kind, -1, 1, 1, 1, 1, 2);
            sheet(kind, 997, 1, 997, 998, 999, 999, 999);
            sheet(kind, 1000, 0, 999);
            sheet(kind, 2, -1, 2, 1, 1, 1);
        }
        sheet(0, -1, 1, 1, 1, 1, 2);
        sheet(2, Integer.MIN_VALUE, 0, 1, 1);
        sheet(2, Integer.MAX_VALUE, 0, 999, 999);
        sheet(2, Integer.MIN_VALUE + 1, 0, 1);
    }

    private static void bytes() {
        C.says("Promise 7: bytes (kind 0): the lowest bits, with their sign");
        sheet(0, 126, 1, 126, 127, 1, 1);
        sheet(0, 255, 1, 1, 1, 1, 2);
        sheet(0, 256 + 127, 0, 127);
        sheet(0, 256 + 128, 0, 1);
        sheet(0, -129, 0, 127);
        sheet(0, -128, 0, 1);
        sheet(0, -255, 0, 1);
        sheet(0, -254, 0, 2);
        sheet(0, 5, 256, 5, 5, 5);
        sheet(0, 0x7fffff7f, 0, 127);
        sheet(0, Integer.MIN_VALUE + 100, 0, 100);
        sheet(0, 999, 0, 1);
        sheet(0, 1000, 0, 1);
    }

    private static void shorts() {
        C.says("Promise 7: shorts (1): the lowest bits, with their sign");
        sheet(1, 32767, 1, 999, 1, 1);
        sheet(1, 65535, 1, 1, 1, 1, 2);
        sheet(1, 65536 + 500, 0, 500);
        sheet(1, 65536 - 1, 0, 1);
        sheet(1, -65536 + 77, 0, 77);
        sheet(1, -32769, 0, 999);
        sheet(1, -32768, 0, 1);
        sheet(1, 128, 127, 128, 255, 382);
        sheet(1, 7, 65536, 7, 7, 7);
        sheet(1, Integer.MIN_VALUE + 321, 0, 321);
    }

    private static void ints() {
        C.says("Promise 7: ints (2) of n entries f, f + step, ..");
        sheet(2, 10, 20, 10, 30, 50, 70);
        sheet(2, 70, -30, 70, 40, 10, 1, 1);
        sheet(2, 500, 0, 500, 500, 500);
        sheet(2, 65536 + 5, 0, 999);
        sheet(2, 32768, 0, 999);
        sheet(2, 256, 128, 256, 384, 512);
        int[] twenty = new int[20];
        for (int k = 0; k < 20; k++) {
            twenty[k] = 1 + 3 * k;
        }
        sheet(2, 1, 3, twenty);
        sheet(1, 1, 3, twenty);
        sheet(0, 1, 3, twenty);
    }

    private static void intsThatWrap() {
        C.says("Promise 7: f, f + step, .. (as ints)");
        sheet(2, Integer.MAX_VALUE, 1, 999, 1, 1);
        sheet(2, Integer.MIN_VALUE, -1, 1, 999, 999);
        sheet(2, 600, 1 << 30, 600, 999, 1, 1, 600, 999);
        sheet(2, 7, Integer.MIN_VALUE, 7, 1, 7, 1);
        sheet(2, Integer.MIN_VALUE + 7, Integer.MIN_VALUE, 1, 7, 1, 7);
        sheet(2, -2, Integer.MAX_VALUE, 1, 999, 1, 999);
        sheet(2, Integer.MAX_VALUE, Integer.MAX_VALUE, 999, 1, 999, 1);
        sheet(1, Integer.MAX_VALUE, 6, 1, 5, 11);
        sheet(0, Integer.MAX_VALUE, 6, 1, 5, 11);
        sheet(1, 11, (1 << 30) + 1, 11, 12, 13, 14, 15);
    }

    private static void entries() {
        C.says("Promise 7: entry k of SPAN k (those behind the last entry stay)");
        for (int n = 0; n <= 20; n++) {
            JoinedMonths x = Check.withSpans(20);
            C.is("n " + n, x.sheet(2, n, 700, 1), n);
            for (int k = 0; k < 20; k++) {
                C.is("n " + n + ", SPAN " + k, x.span(k, 4), k < n ? 700 + k : 100 + k);
            }
        }
        for (int there : new int[] {0, 1, 19}) {
            JoinedMonths x = Check.withSpans(there);
            C.is("more entries than SPANS", x.sheet(2, 20, 700, 1), there);
            C.is("no SPAN comes by it", x.count(0), there);
        }
        JoinedMonths x = Check.withSpans(2);
        x.sheet(2, 20, 700, 1);
        x.comes(0, 0, 0, 0, 5);
        C.is("no entry waits for a SPAN", x.span(2, 4), 5);
    }

    private static void howMany() {
        C.says("Promise 7: how many have another PAY than before");
        JoinedMonths x = Check.withSpans(5);
        C.is("all as they are", x.sheet(2, 5, 100, 1), 0);
        C.is("all but one", x.sheet(2, 5, 102, 0), 4);
        C.is("none", x.sheet(2, 5, 102, 0), 0);
        C.is("held, and so as before", x.sheet(2, 5, 5000, 0), 5);
        C.is("held, and so as before", x.sheet(2, 5, 999, 1), 0);
        C.is("no entries", x.sheet(0, 0, 1, 1), 0);
        C.is("the first alone", x.sheet(1, 1, 1, 1), 1);
        C.is("ALL follows", Check.with("aw000059100").count(4), 612);
        JoinedMonths all = Check.with("aw000059100");
        all.sheet(2, 1, 900, 0);
        C.is("ALL follows", all.count(4), 600 + 60 * 20 * 900 / 10000);
    }

    private static void nothingIsKept() {
        C.says("Promise 7: Nothing is kept of it that could be undone");
        JoinedMonths fresh = Check.withSpans(0);
        fresh.sheet(2, 20, 7, 0);
        C.is("nothing", fresh.undo(), -1);
        JoinedMonths x = Check.withSpans(3);
        C.is("three", x.count(5), 3);
        x.sheet(2, 3, 7, 0);
        C.is("still three", x.count(5), 3);
        C.is("the latest comes() is undone, not the sheet", x.undo(), 2);
        C.is("two SPANS", x.count(0), 2);
        JoinedMonths eight = Check.withSpans(8);
        for (int i = 1; i <= 5; i++) {
            eight.sheet(2, 8, i, 0);
        }
        C.is("all eight can be undone", eight.count(5), 8);
        for (int left = 7; left >= 0; left--) {
            C.is("undone", eight.undo(), left);
            C.is("SPANS", eight.count(0), left);
        }
    }

    private static void answersBelowZero() {
        C.says("Promise 7: -2: n below 0 (of kinds 0 .. 2); -3: missing; NONE: another kind, n above 20 (these first)");
        int[][] due = {{0, 20, 5}, {1, 20, 5}, {2, 20, 5}, {0, 0, 0}, {0, 21, -1}, {1, 21, -1}, {2, 21, -1}, {3, 21, -1},
            {0, -1, -2}, {1, -1, -2}, {2, -1, -2}, {3, -1, -3}, {3, 0, -3}, {3, 20, -3}, {-1, 0, -1}, {4, 0, -1},
            {-1, -1, -1}, {4, -1, -1}, {4, 21, -1}, {Integer.MIN_VALUE, 1, -1}, {Integer.MAX_VALUE, 1, -1},
            {0, Integer.MIN_VALUE, -2}, {3, Integer.MIN_VALUE, -3}, {3, Integer.MAX_VALUE, -1}};
        for (int[] d : due) {
            JoinedMonths x = Check.withSpans(5);
            C.is("sheet(" + d[0] + ", " + d[1] + ")", x.sheet(d[0], d[1], 7, 0), d[2]);
            for (int k = 0; k < 5; k++) {
                C.is("PAY of SPAN " + k, x.span(k, 4), d[2] > 0 ? 7 : 100 + k);
            }
        }
    }
}

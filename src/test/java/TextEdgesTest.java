/** Promises 1 to 7 at their edges, sentence by sentence: a new object, sign, end, spans, laws, ranks, sheet. */
public final class TextEdgesTest {
    private static final Check C = new Check("TextEdgesTest");
    private static final String SPAN = "aw010019100";
    private static final String LAW = "a0601020300";

    public static void main(String[] args) {
        newObject();
        signs();
        signBytes();
        signRefused();
        ends();
        spansOfOne();
        spansLetters();
        spansDigits();
        spansNumbers();
        spansEndEarly();
        spansTooMany();
        spansFull();
        spansEmpty();
        lawsLetters();
        lawsDigits();
        lawsNumbers();
        lawsEndEarly();
        lawsLastHolds();
        lawsFull();
        ranksMoved();
        ranksFaults();
        C.end();
    }

    private static void newObject() {
        C.says("Promise 1: No SPANS");
        JoinedMonths x = new JoinedMonths();
        C.is("SPANS", x.count(0), 0);
        C.is("ALL", x.count(4), 0);
        C.is("what can be undone", x.count(5), 0);
        C.is("numbers of the ROW", x.count(6), 0);
        C.is("signs of THE TEXT", x.count(7), 0);
        C.is("YEARS of which INDEX is not 100", x.count(8), 0);
        C.is("goes(0)", x.goes(0), -1);
        C.is("undo()", x.undo(), -1);
        C.no("again(0)", x.again(0));
        C.no("again(1)", x.again(1));
        C.throwsNone("span(0, 0)", () -> x.span(0, 0));
        C.throwsNone("row(0)", () -> x.row(0));
        for (int m = 0; m < 360; m++) {
            C.is("MONTH " + m, x.month(m, 0), 0);
        }
        JoinedMonths used = Edges.FULL.make();
        C.is("one object knows nothing of another", new JoinedMonths().count(0), used.count(0) - 20);
    }

    private static void signs() {
        C.says("Promise 2: Four signs come behind THE TEXT: how many it has");
        JoinedMonths x = new JoinedMonths();
        for (int n = 4; n <= 80; n += 4) {
            C.is("sign()", x.sign(n), n);
            C.is("signs", x.count(7), n);
        }
        for (int n = 0; n <= 76; n++) {
            JoinedMonths y = new JoinedMonths();
            Check.say(y, "x".repeat(n));
            C.is("sign() behind " + n, y.sign(0), n + 4);
        }
        JoinedMonths behind = new JoinedMonths();
        behind.sign(0x6b303378);
        behind.end(3);
        behind.sign(0x6b303400);
        behind.end(6);
        C.is("they come behind THE TEXT", behind.day(), 2);
        C.is("they come behind THE TEXT", behind.count(1), 4);
    }

    private static void signBytes() {
        C.says("Promise 2: of v the highest byte first");
        JoinedMonths x = new JoinedMonths();
        x.sign('w' << 24 | 's' << 16 | 'v' << 8 | 'c');
        C.is("w, s, v, c", x.ranks(), 2);
        C.is("RANKS", x.count(3), 132);
        int[] last = {0x80, 0xff, 0, 'x'};
        for (int b : last) {
            for (int at = 0; at < 4; at++) {
                int v = 'v' << 24 | 'c' << 16 | 's' << 8 | 'w';
                v = v & ~(255 << 24 - 8 * at) | b << 24 - 8 * at;
                x.sign(v);
                C.is("byte " + b + " at " + at, x.ranks(), -1 - at);
            }
        }
        for (int v : new int[] {Integer.MIN_VALUE, Integer.MAX_VALUE, -1, 0}) {
            C.is("sign(" + v + ")", x.sign(v), 4);
            C.is("no RANKS", x.ranks(), -1);
        }
        // As signs are bytes, 'a' + 256 and the like can't come: the sign 0xe1 is no letter a.
        x.sign(0xe1773030);
        C.is("0xe1 is no a", x.spans(), -1);
    }

    private static void signRefused() {
        C.says("Promise 2: Refused: there would be more than 80");
        for (int n = 77; n <= 80; n++) {
            JoinedMonths x = new JoinedMonths();
            Check.say(x, Edges.acts(26) + "zz");
            x.end(n);
            C.is("sign() behind " + n, x.sign(0x6b303378), -1);
            C.is("signs", x.count(7), n);
            x.end(75);
            C.is("THE TEXT stays", x.day(), 25);
            C.is("THE TEXT stays", x.count(1), 1);
        }
        JoinedMonths x = new JoinedMonths();
        Check.say(x, Edges.acts(25) + "k");
        C.is("76 signs", x.count(7), 76);
        C.is("sign() behind 76", x.sign('0' << 24 | '2' << 16), 80);
        x.end(78);
        C.is("26 ACTS", x.day(), 26);
    }

    private static void ends() {
        C.says("Promise 3: THE TEXT has its first n signs alone; false if it has not so many, or n is below 0");
        JoinedMonths x = new JoinedMonths();
        C.yes("end(0) of an empty one", x.end(0));
        C.no("end(1) of an empty one", x.end(1));
        Check.say(x, "k01k02k03k04");
        for (int n : new int[] {13, 80, 81, -1, Integer.MIN_VALUE, Integer.MAX_VALUE}) {
            C.no("end(" + n + ")", x.end(n));
            C.is("signs stay", x.count(7), 12);
        }
        C.yes("end(12)", x.end(12));
        C.is("signs", x.count(7), 12);
        C.yes("end(9)", x.end(9));
        C.no("end(10), what is cut is gone", x.end(10));
        C.is("its first signs", x.day(), 3);
        C.is("its first signs", x.count(1), 3);
        Check.say(x, "k07");
        C.yes("end(0)", x.end(0));
        C.is("nothing is left", x.day(), 0);
    }

    private static void spansOfOne() {
        C.says("Promise 4: a letter a .. e, a letter w, s, c or v, three digits (the first MONTH), three (the last), three (PAY)");
        for (int country = 0; country < 5; country++) {
            for (int kind = 0; kind < 4; kind++) {
                JoinedMonths x = new JoinedMonths();
                String letters = "" + "abcde".charAt(country) + "wscv".charAt(kind);
                C.is(letters, Check.spans(x, letters + "012345678"), 1);
                int[] due = {country, kind, 12, 345, 678};
                for (int what = 0; what < 5; what++) {
                    C.is(letters + ", what " + what, x.span(0, what), due[what]);
                }
            }
        }
    }

    private static void spansFault(String what, String text, int at) {
        JoinedMonths x = new JoinedMonths();
        C.is(what + ": " + text, Check.spans(x, text), -1 - at);
        C.is(what + ", nothing comes", x.count(0), 0);
        C.is(what + ", nothing is kept", x.count(5), 0);
        C.is(what + ", THE TEXT is empty", x.count(7), 0);
    }

    private static String put(String text, int at, char sign) {
        return text.substring(0, at) + sign + text.substring(at + 1);
    }

    private static void spansLetters() {
        C.says("Promise 4: -1 - p: the sign at p can't stand there");
        for (char wrong : new char[] {'`', 'f', 'A', 'E', 'w', '0', ' ', 0, 255}) {
            spansFault("no COUNTRY", put(SPAN, 0, wrong), 0);
            spansFault("no COUNTRY of the second", SPAN + put(SPAN, 0, wrong), 11);
        }
        for (char wrong : new char[] {'r', 't', 'b', 'd', 'u', 'x', 'W', 'a', '0', 0, 255}) {
            spansFault("no KIND", put(SPAN, 1, wrong), 1);
            spansFault("no KIND of the second", SPAN + put(SPAN, 1, wrong), 12);
        }
    }

    private static void spansDigits() {
        C.says("Promise 4: -1 - p: the sign at p can't stand there");
        for (int at = 2; at < 11; at++) {
            for (char wrong : new char[] {'/', ':', 'a', ' ', '-', 0, 255}) {
                spansFault("no digit", put(SPAN, at, wrong), at);
                spansFault("no digit of the second", SPAN + put(SPAN, at, wrong), 11 + at);
            }
        }
        spansFault("signs between", SPAN + " " + SPAN, 11);
        spansFault("the first wrong sign", "aw0/0/19100", 3);
        spansFault("a wrong sign ahead of the third digit", "aw9/0", 3);
    }

    private static void spansNumbers() {
        C.says("Promise 4: the third digit of a number that can't be");
        spansFault("first MONTH 360", "aw360360001", 4);
        spansFault("first MONTH 999", "aw999999001", 4);
        spansFault("first MONTH 360 and no more", "aw360", 4);
        spansFault("last MONTH 360", "aw000360001", 7);
        spansFault("last MONTH 999", "aw359999001", 7);
        spansFault("last MONTH ahead of the first", "aw359358001", 7);
        spansFault("last MONTH ahead of the first", "aw001000001", 7);
        spansFault("last MONTH ahead of the first and no more", "aw001000", 7);
        spansFault("PAY 0", "aw000000000", 10);
        spansFault("PAY 0 of the second", SPAN + "aw000000000", 21);
        spansFault("the first number that can't be", "aw360000000", 4);
        String[] good = {"aw000000001", "ev359359999", "aw000359001", "bs001001010"};
        for (String text : good) {
            C.is(text, Check.spans(new JoinedMonths(), text), 1);
        }
    }

    private static void spansEndEarly() {
        C.says("Promise 4: its end, if it ends too early");
        for (int n = 1; n < 11; n++) {
            spansFault("ends too early", SPAN.substring(0, n), n);
            spansFault("the second ends too early", SPAN + SPAN.substring(0, n), 11 + n);
        }
        C.is("it does not", Check.spans(new JoinedMonths(), SPAN), 1);
        C.is("it does not", Check.spans(new JoinedMonths(), SPAN + SPAN), 2);
    }

    private static void spansTooMany() {
        C.says("Promise 4: the first sign of a SPAN too many");
        for (int there = 13; there <= 20; there++) {
            int fit = 20 - there;
            String text = SPAN.repeat(fit);
            for (String more : new String[] {SPAN, "a", "x", "aw360"}) {
                JoinedMonths x = Check.withSpans(there);
                if ((text + more).length() <= 80) {
                    C.is(there + " and " + (fit + 1), Check.spans(x, text + more), -1 - 11 * fit);
                    C.is(there + " stay", x.count(0), there);
                    C.is("the last one stays", x.span(there - 1, 4), 100 + there - 1);
                }
            }
            JoinedMonths x = Check.withSpans(there);
            C.is(there + " and " + fit, Check.spans(x, text), 20);
        }
        JoinedMonths x = Check.withSpans(19);
        C.is("a wrong sign ahead of it comes first", Check.spans(x, "aw000000000" + SPAN), -11);
    }

    private static void spansFull() {
        C.says("Promise 4: SPANS one behind another, of THE TEXT of 80 signs");
        JoinedMonths x = new JoinedMonths();
        C.is("seven SPANS are 77 signs", Check.spans(x, SPAN.repeat(7)), 7);
        C.is("seven more", Check.spans(x, SPAN.repeat(7)), 14);
        C.is("the seventh is one too many", Check.spans(x, SPAN.repeat(7) + "aw0"), -67);
        C.is("80 signs end too early", Check.spans(new JoinedMonths(), SPAN.repeat(7) + "aw0"), -81);
        C.is("six more", Check.spans(x, SPAN.repeat(6)), 20);
        C.is("none more", Check.spans(x, SPAN), -1);
    }

    private static void spansEmpty() {
        C.says("Promise 4: An empty one: nothing comes");
        int[] there = {0, 1, 19, 20};
        for (int n : there) {
            JoinedMonths x = Check.withSpans(n);
            C.is("how many there are", x.spans(), n);
            C.is("nothing comes", x.count(0), n);
        }
        JoinedMonths cut = Check.withSpans(3);
        Check.say(cut, SPAN);
        cut.end(0);
        C.is("one that was cut", cut.spans(), 3);
        JoinedMonths read = Check.withSpans(3);
        C.is("a TEXT", Check.spans(read, SPAN), 4);
        C.is("it is read once", read.spans(), 4);
    }

    private static void lawsFault(String what, String text, int at) {
        JoinedMonths x = new JoinedMonths();
        C.is(what + ": " + text, Check.laws(x, text), -1 - at);
        for (int i = 0; i < 20; i++) {
            C.is(what + ", the LAWS stay", x.law(i / 4, i % 4), new int[] {60, 10, 20, 300}[i % 4]);
        }
        C.is(what + ", nothing is kept", x.count(5), 0);
        C.is(what + ", THE TEXT is empty", x.count(7), 0);
    }

    private static void lawsLetters() {
        C.says("Promise 5: a letter a .. e");
        for (int country = 0; country < 5; country++) {
            JoinedMonths x = new JoinedMonths();
            C.is("COUNTRY " + country, Check.laws(x, put("a1230456078", 0, "abcde".charAt(country))), 1);
            int[] due = {123, 4, 56, 78};
            for (int i = 0; i < 20; i++) {
                int first = new int[] {60, 10, 20, 300}[i % 4];
                C.is("law(" + i / 4 + ", " + i % 4 + ")", x.law(i / 4, i % 4), i / 4 == country ? due[i % 4] : first);
            }
        }
        for (char wrong : new char[] {'`', 'f', 'A', '0', ' ', 0, 255}) {
            lawsFault("no COUNTRY", put(LAW, 0, wrong), 0);
            lawsFault("no COUNTRY of the second", "b0010000000" + put(LAW, 0, wrong), 11);
        }
    }

    private static void lawsDigits() {
        C.says("Promise 5: three digits NEEDED, two FLAT, two PART, three AGE");
        for (int at = 1; at < 11; at++) {
            for (char wrong : new char[] {'/', ':', 'a', ' ', 0, 255}) {
                lawsFault("no digit", put(LAW, at, wrong), at);
                lawsFault("no digit of the second", "b0010000000" + put(LAW, at, wrong), 11 + at);
            }
        }
        lawsFault("a wrong sign ahead of the last digit", "a9/9", 2);
    }

    private static void lawsNumbers() {
        C.says("Promise 5: the last digit of a number that can't be");
        lawsFault("NEEDED 0", "a0001020300", 3);
        lawsFault("NEEDED 0 and no more", "a000", 3);
        lawsFault("NEEDED 241", "a2411020300", 3);
        lawsFault("NEEDED 999", "a9991020300", 3);
        lawsFault("AGE 360", "a0601020360", 10);
        lawsFault("AGE 999", "a0601020999", 10);
        lawsFault("AGE 360 of the second", "b0010000000a0601020360", 21);
        lawsFault("the first number that can't be", "a0001020360", 3);
        JoinedMonths x = new JoinedMonths();
        C.is("the least and the greatest", Check.laws(x, "a0010000000e2409999359"), 2);
        for (int what = 0; what < 4; what++) {
            C.is("the least", x.law(0, what), new int[] {1, 0, 0, 0}[what]);
            C.is("the greatest", x.law(4, what), new int[] {240, 99, 99, 359}[what]);
        }
    }

    private static void lawsEndEarly() {
        C.says("Promise 5: -1 - p: likewise (its end, if it ends too early)");
        for (int n = 1; n < 11; n++) {
            lawsFault("ends too early", LAW.substring(0, n), n);
            lawsFault("the second ends too early", "b0010000000" + LAW.substring(0, n), 11 + n);
        }
        JoinedMonths x = new JoinedMonths();
        C.is("an empty one: none were told", x.laws(), 0);
        C.is("the LAWS stay", x.law(0, 0), 60);
    }

    private static void lawsLastHolds() {
        C.says("Promise 5: the last one told holds; how many were told");
        JoinedMonths x = new JoinedMonths();
        C.is("three times one COUNTRY", Check.laws(x, "c0010101001d0050505005c0020202002c0030303003"), 4);
        for (int what = 0; what < 4; what++) {
            C.is("the last one", x.law(2, what), 3);
            C.is("the only one", x.law(3, what), 5);
        }
        C.is("one that is so already", Check.laws(x, "c0030303003"), 1);
        C.is("it is as it was", x.law(2, 0), 3);
    }

    private static void lawsFull() {
        C.says("Promise 5: LAWS one behind another, of THE TEXT of 80 signs");
        JoinedMonths x = new JoinedMonths();
        C.is("seven LAWS are 77 signs", Check.laws(x, LAW.repeat(6) + "b0010000000"), 7);
        C.is("the seventh", x.law(1, 0), 1);
        C.is("80 signs end too early", Check.laws(x, LAW.repeat(7) + "a06"), -81);
    }

    private static void ranksMoved() {
        C.says("Promise 6: how many KINDS have another place than before");
        String[] texts = {"wscv", "swcv", "wcsv", "wsvc", "vscw", "scwv", "svcw", "vcsw", "swvc"};
        int[] moved = {0, 2, 2, 2, 2, 3, 3, 4, 4};
        int[] digits = {123, 1023, 213, 132, 3120, 1203, 1320, 3210, 1032};
        for (int i = 0; i < texts.length; i++) {
            JoinedMonths x = new JoinedMonths();
            C.is(texts[i], Check.ranks(x, texts[i]), moved[i]);
            C.is(texts[i], x.count(3), digits[i]);
            C.is(texts[i] + " once more", Check.ranks(x, texts[i]), 0);
            C.is(texts[i] + " and back", Check.ranks(x, "wscv"), moved[i]);
        }
    }

    private static void ranksFault(String text, int at) {
        JoinedMonths x = new JoinedMonths();
        Check.ranks(x, "vcsw");
        C.is("ranks() of " + text, Check.ranks(x, text), -1 - at);
        C.is(text + ": RANKS stay", x.count(3), 3210);
        C.is(text + ": nothing more is kept", x.count(5), 1);
        C.is(text + ": THE TEXT is empty", x.count(7), 0);
    }

    private static void ranksFaults() {
        C.says("Promise 6: the sign at p can't stand there (a letter told already, a fifth, too; its end, if it ends too early)");
        String good = "cwvs";
        for (int at = 0; at < 4; at++) {
            ranksFault(good.substring(0, at), at);
            for (char wrong : new char[] {'r', 't', 'b', 'd', 'u', 'x', 'W', '0', ' ', 0, 255}) {
                ranksFault(put(good, at, wrong), at);
            }
            for (int told = 0; told < at; told++) {
                ranksFault(put(good, at, good.charAt(told)), at);
            }
        }
        for (char fifth : new char[] {'w', 's', 'c', 'v', 'x', '0', 0}) {
            ranksFault(good + fifth, 4);
        }
        ranksFault(good + good, 4);
        ranksFault(good.repeat(20), 4);
        ranksFault("ww", 1);
        ranksFault("wwww", 1);
    }
}

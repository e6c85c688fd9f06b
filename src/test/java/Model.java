import java.util.ArrayDeque;
import java.util.ArrayList;
import java.util.Collections;
import java.util.Comparator;
import java.util.Deque;
import java.util.List;
import java.util.NoSuchElementException;

/** A slow second reading of the document, month by month and without regard to room: what JoinedMonths is held to. */
public final class Model {
    private static final class State {
        List<int[]> spans = new ArrayList<>();
        int[][] laws = new int[5][];
        String ranks = "wscv";
        int[] index = new int[30];
        int credit = 6;
        int least = 12;

        State() {
            for (int c = 0; c < 5; c++) {
                laws[c] = new int[] {60, 10, 20, 300};
            }
            java.util.Arrays.fill(index, 100);
        }

        State twin() {
            State t = new State();
            for (int[] s : spans) {
                t.spans.add(s.clone());
            }
            for (int c = 0; c < 5; c++) {
                t.laws[c] = laws[c].clone();
            }
            t.ranks = ranks;
            t.index = index.clone();
            t.credit = credit;
            t.least = least;
            return t;
        }

        List<Integer> covering(int m) {
            List<Integer> found = new ArrayList<>();
            for (int k = 0; k < spans.size(); k++) {
                if (m >= spans.get(k)[2] && m <= spans.get(k)[3]) {
                    found.add(k);
                }
            }
            return found;
        }

        int by(int m) {
            List<Integer> found = covering(m);
            Comparator<Integer> order = Comparator.comparingInt(k -> ranks.indexOf("wscv".charAt(spans.get(k)[1])));
            order = order.thenComparing(k -> -spans.get(k)[4]).thenComparing(k -> spans.get(k)[0]).thenComparing(k -> k);
            return found.isEmpty() ? -1 : Collections.min(found, order);
        }

        /** Of each MONTH: how it stands, of which COUNTRY, its PAY. */
        int[][] months() {
            int[][] out = new int[360][];
            for (int m = 0; m < 360; m++) {
                int k = by(m);
                out[m] = k < 0 ? new int[] {0, -1, 0}
                        : new int[] {1, spans.get(k)[0], spans.get(k)[4] * index[m / 12] / 100};
            }
            for (int[] g : gaps()) {
                for (int m = g[0]; g[2] == 1 && m < g[0] + g[1]; m++) {
                    out[m] = new int[] {2, out[g[0] - 1][1], out[g[0] - 1][2] / 2};
                }
            }
            return out;
        }

        List<int[]> gaps() {
            List<int[]> found = new ArrayList<>();
            for (int a = 1; a < 360; a++) {
                if (covering(a - 1).isEmpty() || !covering(a).isEmpty()) {
                    continue;
                }
                int b = a;
                while (b < 360 && covering(b).isEmpty()) {
                    b++;
                }
                if (b < 360) {
                    found.add(new int[] {a, b - a, b - a <= credit ? 1 : 0});
                }
            }
            return found;
        }

        boolean canBe(int c, int kind, int from, int to, int pay) {
            return c >= 0 && c < 5 && kind >= 0 && kind < 4 && from >= 0 && to >= from && to < 360 && pay > 0 && pay < 1000;
        }

        int comes(int c, int kind, int from, int to, int pay) {
            if (!canBe(c, kind, from, to, pay)) {
                return -1;
            }
            if (spans.size() == 20) {
                return -3;
            }
            spans.add(new int[] {c, kind, from, to, pay});
            return spans.size();
        }

        int goes(int k) {
            if (k < 0 || k >= spans.size()) {
                return -1;
            }
            spans.remove(k);
            return spans.size();
        }

        int lasts(int k, int from, int to) {
            if (k < 0 || k >= spans.size() || !canBe(0, 0, from, to, 1)) {
                return -1;
            }
            int[] s = spans.get(k);
            if (s[2] == from && s[3] == to) {
                return -2;
            }
            s[2] = from;
            s[3] = to;
            return to - from + 1;
        }

        int becomes(int c, int what, int v) {
            if (c < 0 || c > 4 || what < 0 || what > 3 || v < (what == 0 ? 1 : 0)
                    || v > (what == 0 ? 240 : what == 3 ? 359 : 99)) {
                return -1;
            }
            int was = laws[c][what];
            laws[c][what] = v;
            return was == v ? -2 : was;
        }

        int indexes(int y, int v) {
            if (y < 0 || y > 29 || v < 50 || v > 400) {
                return -1;
            }
            int was = index[y];
            index[y] = v;
            return was == v ? -2 : was;
        }

        int sets(int what, int v) {
            if (what < 0 || what > 1 || v < 0 || v > (what == 0 ? 24 : 60)) {
                return -1;
            }
            int was = what == 0 ? credit : least;
            if (what == 0) {
                credit = v;
            } else {
                least = v;
            }
            return was == v ? -2 : was;
        }
    }

    /** All that is reckoned by a state. */
    private static final class Sums {
        final int[][] months;
        final long[] own = new long[5];
        final long[] counts = new long[5];
        final long[] ownWage = new long[5];
        final long[] base = new long[5];
        final long[] national = new long[5];
        final long[] theoretical = new long[5];
        final long[] shared = new long[5];
        final long[] paid = new long[5];
        long total = 0;
        long wage = 0;
        long bearer = -1;
        long lent = 0;
        long all = 0;

        Sums(State s) {
            months = s.months();
            long pay = 0;
            for (int[] m : months) {
                if (m[0] > 0) {
                    total++;
                    pay += m[2];
                    own[m[1]]++;
                    counts[m[1]] += m[0] == 1 ? 1 : 0;
                    ownWage[m[1]] += m[2];
                }
            }
            wage = total == 0 ? 0 : pay / total;
            for (int c = 4; c >= 0; c--) {
                ownWage[c] = own[c] == 0 ? 0 : ownWage[c] / own[c];
                if (own[c] >= s.least && own[c] >= 1 && (bearer < 0 || own[c] >= own[(int) bearer])) {
                    bearer = c;
                }
            }
            for (int c = 0; c < 5; c++) {
                base[c] += own[c] >= s.least ? own[c] : 0;
                if (own[c] < s.least && bearer >= 0) {
                    base[(int) bearer] += own[c];
                    lent += own[c];
                }
            }
            for (int c = 0; c < 5; c++) {
                int[] law = s.laws[c];
                national[c] = own[c] >= law[0] ? own[c] * law[1] + own[c] * law[2] * ownWage[c] / 10000 : 0;
                theoretical[c] = total >= law[0] && base[c] != 0 ? total * law[1] + total * law[2] * wage / 10000 : 0;
                shared[c] = total == 0 ? 0 : theoretical[c] * base[c] / total;
                paid[c] = Math.max(national[c], shared[c]);
                all += paid[c];
            }
        }
    }

    private State now = new State();
    private final Deque<State> past = new ArrayDeque<>();
    private final State[] kept = new State[2];
    private List<Long> row = new ArrayList<>();
    private String text = "";

    private static boolean land(int c) {
        return c >= 0 && c < 5;
    }

    private int tell(long answer, long... numbers) {
        row = new ArrayList<>();
        for (long n : numbers) {
            row.add(n);
        }
        return (int) answer;
    }

    private int change(State next, int answer) {
        if (answer >= 0) {
            past.addLast(now);
            if (past.size() > 8) {
                past.removeFirst();
            }
            now = next;
        }
        return answer;
    }

    // ---- texts

    public int sign(int v) {
        if (text.length() + 4 > 80) {
            return -1;
        }
        text += "" + (char) (v >> 24 & 255) + (char) (v >> 16 & 255) + (char) (v >> 8 & 255) + (char) (v & 255);
        return text.length();
    }

    public boolean end(int n) {
        if (n < 0 || n > text.length()) {
            return false;
        }
        text = text.substring(0, n);
        return true;
    }

    /** Reads by a pattern of signs ('c' a country, 'k' a kind, '0' a digit, '3' a digit 0 to 3): where it fails, or -1. */
    private static int fails(String text, int at, String pattern) {
        for (int i = 0; i < pattern.length(); i++) {
            String may = switch (pattern.charAt(i)) {
                case 'c' -> "abcde";
                case 'k' -> "wscv";
                case '3' -> "0123";
                default -> "0123456789";
            };
            if (at + i >= text.length() || may.indexOf(text.charAt(at + i)) < 0) {
                return at + i;
            }
        }
        return -1;
    }

    private static int num(String text, int at, int n) {
        return Integer.parseInt(text.substring(at, at + n));
    }

    /** Like fails(), and a number out of bounds is a fault at its last digit. */
    private static int failsBound(String t, int at, int n, int least, int most) {
        int p = fails(t, at, "000".substring(0, n));
        return p >= 0 ? p : num(t, at, n) < least || num(t, at, n) > most ? at + n - 1 : -1;
    }

    public int spans() {
        String t = text;
        text = "";
        State next = now.twin();
        for (int at = 0; at < t.length(); at += 11) {
            if (next.spans.size() == 20) {
                return -1 - at;
            }
            int p = fails(t, at, "ck");
            p = p >= 0 ? p : failsBound(t, at + 2, 3, 0, 359);
            p = p >= 0 ? p : failsBound(t, at + 5, 3, num(t, at + 2, 3), 359);
            p = p >= 0 ? p : failsBound(t, at + 8, 3, 1, 999);
            if (p >= 0) {
                return -1 - p;
            }
            next.comes(t.charAt(at) - 'a', "wscv".indexOf(t.charAt(at + 1)), num(t, at + 2, 3), num(t, at + 5, 3),
                    num(t, at + 8, 3));
        }
        return change(next, next.spans.size());
    }

    public int laws() {
        String t = text;
        text = "";
        State next = now.twin();
        int told = 0;
        for (int at = 0; at < t.length(); at += 11) {
            int p = fails(t, at, "c");
            p = p >= 0 ? p : failsBound(t, at + 1, 3, 1, 240);
            p = p >= 0 ? p : failsBound(t, at + 4, 2, 0, 99);
            p = p >= 0 ? p : failsBound(t, at + 6, 2, 0, 99);
            p = p >= 0 ? p : failsBound(t, at + 8, 3, 0, 359);
            if (p >= 0) {
                return -1 - p;
            }
            next.laws[t.charAt(at) - 'a'] = new int[] {num(t, at + 1, 3), num(t, at + 4, 2), num(t, at + 6, 2),
                num(t, at + 8, 3)};
            told++;
        }
        return change(next, told);
    }

    public int ranks() {
        String t = text;
        text = "";
        int moved = 0;
        for (int p = 0; p < 4; p++) {
            if (p >= t.length() || "wscv".indexOf(t.charAt(p)) < 0 || t.indexOf(t.charAt(p)) < p) {
                return -1 - p;
            }
            moved += t.charAt(p) != now.ranks.charAt(p) ? 1 : 0;
        }
        if (t.length() > 4) {
            return -5;
        }
        State next = now.twin();
        next.ranks = t;
        return change(next, moved);
    }

    public int sheet(int kind, int n, int f, int step) {
        if (kind < 0 || kind > 3 || n > 20) {
            return -1;
        }
        if (kind == 3 || n < 0) {
            return kind == 3 ? -3 : -2;
        }
        now = now.twin();
        int changed = 0;
        int v = f;
        for (int k = 0; k < n; k++, v += step) {
            int pay = kind == 0 ? (byte) v : kind == 1 ? (short) v : v;
            pay = pay < 1 ? 1 : pay > 999 ? 999 : pay;
            if (k < now.spans.size()) {
                changed += now.spans.get(k)[4] != pay ? 1 : 0;
                now.spans.get(k)[4] = pay;
            }
        }
        return changed;
    }

    // ---- what there is

    public int span(int k, int what) {
        if (k < 0 || k >= now.spans.size() || what < 0 || what > 5) {
            throw new NoSuchElementException();
        }
        if (what < 5) {
            return now.spans.get(k)[what];
        }
        int n = 0;
        for (int m = 0; m < 360; m++) {
            n += now.by(m) == k ? 1 : 0;
        }
        return n;
    }

    public int law(int country, int what) {
        if (!land(country) || what < 0 || what > 3) {
            throw new NoSuchElementException();
        }
        return now.laws[country][what];
    }

    public int month(int m, int what) {
        if (m < 0 || m > 359 || what < 0 || what > 4) {
            throw new NoSuchElementException();
        }
        return what < 3 ? now.months()[m][what] : what == 3 ? now.by(m) : now.covering(m).size();
    }

    public int own(int c) {
        if (!land(c)) {
            return -1;
        }
        Sums s = new Sums(now);
        return tell(s.own[c], s.counts[c], s.own[c] - s.counts[c], s.ownWage[c], s.base[c]);
    }

    public int total() {
        Sums s = new Sums(now);
        return tell(s.total, s.wage, s.bearer, s.lent);
    }

    public int year(int y) {
        if (y < 0 || y > 29) {
            return -1;
        }
        long[] out = new long[7];
        int n = 0;
        for (int m = 12 * y; m < 12 * y + 12; m++) {
            int[] month = now.months()[m];
            if (month[0] > 0) {
                n++;
                out[month[1]]++;
                out[5] += month[2];
            }
        }
        out[6] = now.index[y];
        return tell(n, out);
    }

    public int gaps() {
        List<int[]> gaps = now.gaps();
        long[] out = new long[3 * gaps.size()];
        for (int i = 0; i < out.length; i++) {
            out[i] = gaps.get(i / 3)[i % 3];
        }
        return tell(gaps.size(), out);
    }

    public int doubles() {
        int n = 0;
        long most = 0;
        long first = -1;
        for (int m = 359; m >= 0; m--) {
            int covering = now.covering(m).size();
            n += covering > 1 ? 1 : 0;
            if (covering > 0 && covering >= most) {
                most = covering;
                first = m;
            }
        }
        return tell(n, most, first);
    }

    public int pieces() {
        List<Long> out = new ArrayList<>();
        for (int m = 0; m < 360; m++) {
            int k = now.by(m);
            if (k >= 0 && m > 0 && now.by(m - 1) == k) {
                out.set(out.size() - 1, out.get(out.size() - 1) + 1);
            } else if (k >= 0) {
                Collections.addAll(out, (long) k, (long) m, 1L);
            }
        }
        row = out;
        return out.size() / 3;
    }

    public int both(int one, int other) {
        if (!land(one) || !land(other) || one == other) {
            return -1;
        }
        int n = 0;
        for (int m = 0; m < 360; m++) {
            boolean first = false;
            boolean second = false;
            for (int k : now.covering(m)) {
                first |= now.spans.get(k)[0] == one;
                second |= now.spans.get(k)[0] == other;
            }
            n += first && second ? 1 : 0;
        }
        return n;
    }

    // ---- what is paid

    public int national(int c) {
        return land(c) ? (int) new Sums(now).national[c] : -1;
    }

    public int theoretical(int c) {
        return land(c) ? tell(new Sums(now).theoretical[c], new Sums(now).shared[c]) : -1;
    }

    public int paid(int c) {
        if (!land(c)) {
            return -1;
        }
        Sums s = new Sums(now);
        return tell(s.paid[c], s.paid[c] == 0 ? 0 : s.national[c] >= s.shared[c] ? 1 : 2);
    }

    public int at(int m) {
        if (m < 0 || m > 359) {
            return -1;
        }
        Sums s = new Sums(now);
        long n = 0;
        long bits = 0;
        for (int c = 0; c < 5; c++) {
            if (m >= now.laws[c][3]) {
                n += s.paid[c];
                bits += 1L << c;
            }
        }
        return tell(n, bits, s.all);
    }

    public int most() {
        Sums s = new Sums(now);
        int found = 4;
        for (int c = 3; c >= 0; c--) {
            found = s.paid[c] >= s.paid[found] ? c : found;
        }
        return s.all == 0 ? -2 : tell(found, s.paid[found], s.paid[found] * 100 / s.all);
    }

    // ---- what would be

    private int would(State next) {
        Sums a = new Sums(now);
        Sums b = new Sums(next);
        long n = 0;
        long first = -1;
        long last = -1;
        for (int m = 0; m < 360; m++) {
            boolean same = a.months[m][1] == b.months[m][1] && a.months[m][2] == b.months[m][2]
                    && (a.months[m][0] == 0) == (b.months[m][0] == 0);
            if (!same) {
                n++;
                first = first < 0 ? m : first;
                last = m;
            }
        }
        return tell(100000 + b.all - a.all, n, first, last);
    }

    public int late(int c, int kind, int from, int to, int pay) {
        State next = now.twin();
        int answer = next.comes(c, kind, from, to, pay);
        return answer < 0 ? answer : would(next);
    }

    public int without(int k) {
        State next = now.twin();
        return next.goes(k) < 0 ? -1 : would(next);
    }

    public int lawful(int c, int what, int v) {
        State next = now.twin();
        return next.becomes(c, what, v) == -1 ? -1 : would(next);
    }

    public int settled(int c, int l) {
        State next = now.twin();
        return next.sets(0, c) == -1 || next.sets(1, l) == -1 ? -1 : would(next);
    }

    public int instead(int k, int c, int kind, int from, int to, int pay) {
        State next = now.twin();
        return next.goes(k) < 0 || next.comes(c, kind, from, to, pay) < 0 ? -1 : would(next);
    }

    public int worth() {
        List<long[]> found = new ArrayList<>();
        for (int k = 0; k < now.spans.size(); k++) {
            State next = now.twin();
            next.goes(k);
            found.add(new long[] {new Sums(next).all, k});
        }
        found.sort(Comparator.<long[]>comparingLong(f -> f[0]).thenComparing(f -> f[1]));
        long[] out = new long[found.size()];
        for (int i = 0; i < out.length; i++) {
            out[i] = found.get(i)[1];
        }
        return tell(out.length, out);
    }

    public int best() {
        String found = null;
        long most = -1;
        for (String order : orders("csvw", "", new ArrayList<>())) {
            State next = now.twin();
            next.ranks = order;
            long all = new Sums(next).all;
            if (all > most) {
                most = all;
                found = order;
            }
        }
        long[] out = new long[4];
        for (int i = 0; i < 4; i++) {
            out[i] = "wscv".indexOf(found.charAt(i));
        }
        return tell(most, out);
    }

    private static List<String> orders(String left, String done, List<String> out) {
        if (left.isEmpty()) {
            out.add(done);
        }
        for (int i = 0; i < left.length(); i++) {
            orders(left.substring(0, i) + left.substring(i + 1), done + left.charAt(i), out);
        }
        return out;
    }

    public int buys(int c, int n, int p) {
        if (!land(c) || n < 1 || n > 24 || p < 1 || p > 999) {
            return -1;
        }
        if (now.spans.isEmpty()) {
            return -2;
        }
        int first = 0;
        while (now.covering(first).isEmpty()) {
            first++;
        }
        int[][] months = now.months();
        List<Integer> left = new ArrayList<>();
        for (int m = first; m < 360; m++) {
            if (months[m][0] == 0) {
                left.add(m);
            }
        }
        int bought = Math.min(n, left.size());
        State next = now.twin();
        for (int m : left.subList(0, bought)) {
            next.spans.add(new int[] {c, 3, m, m, p});
        }
        return tell(100000 + new Sums(next).all - new Sums(now).all, bought);
    }

    public int missing(int c) {
        if (!land(c)) {
            return -1;
        }
        Sums s = new Sums(now);
        return tell(Math.max(0, now.laws[c][0] - s.own[c]), Math.max(0, now.laws[c][0] - s.total));
    }

    public int earns(int c) {
        if (!land(c)) {
            return -1;
        }
        int[][] months = now.months();
        int left = now.laws[c][0];
        for (int m = 0; m < 360; m++) {
            left -= months[m][1] == c ? 1 : 0;
            if (left == 0) {
                return m;
            }
        }
        return -2;
    }

    public int part(int c, int m) {
        if (!land(c) || m < 0 || m > 359) {
            return -1;
        }
        int[][] months = now.months();
        int upper = 0;
        int lower = 0;
        for (int i = 0; i <= m; i++) {
            upper += months[i][1] == c ? 1 : 0;
            lower += months[i][0] != 0 ? 1 : 0;
        }
        if (lower == 0) {
            return -2;
        }
        int by = java.math.BigInteger.valueOf(upper).gcd(java.math.BigInteger.valueOf(lower)).intValue();
        return tell(0, upper / by, lower / by);
    }

    // ---- changes

    public int comes(int c, int kind, int from, int to, int pay) {
        State next = now.twin();
        return change(next, next.comes(c, kind, from, to, pay));
    }

    public int goes(int k) {
        State next = now.twin();
        return change(next, next.goes(k));
    }

    public int lasts(int k, int from, int to) {
        State next = now.twin();
        return change(next, next.lasts(k, from, to));
    }

    public int becomes(int c, int what, int v) {
        State next = now.twin();
        return change(next, next.becomes(c, what, v));
    }

    public int indexes(int y, int v) {
        State next = now.twin();
        return change(next, next.indexes(y, v));
    }

    public int sets(int what, int v) {
        State next = now.twin();
        return change(next, next.sets(what, v));
    }

    public int day() {
        String t = text;
        text = "";
        List<String> acts = new ArrayList<>();
        int at = 0;
        while (at < t.length()) {
            int which = "+-mrkli".indexOf(t.charAt(at));
            if (which < 0) {
                return -1 - at;
            }
            String pattern = new String[] {"ck000000000", "00", "00000000", "c3000", "00", "00", "00000"}[which];
            int p = fails(t, at + 1, pattern);
            if (p >= 0) {
                return -1 - p;
            }
            acts.add(t.substring(at, at + 1 + pattern.length()));
            at += 1 + pattern.length();
        }
        State next = now.twin();
        int done = 0;
        while (done < acts.size() && act(next, acts.get(done)) >= 0) {
            done++;
        }
        if (done > 0) {
            change(next, done);
        }
        return tell(done, done < acts.size() ? 1 : 0, new Sums(now).all);
    }

    private static int act(State s, String a) {
        return switch (a.charAt(0)) {
            case '+' -> s.comes(a.charAt(1) - 'a', "wscv".indexOf(a.charAt(2)), num(a, 3, 3), num(a, 6, 3), num(a, 9, 3));
            case '-' -> s.goes(num(a, 1, 2));
            case 'm' -> s.lasts(num(a, 1, 2), num(a, 3, 3), num(a, 6, 3));
            case 'r' -> s.becomes(a.charAt(1) - 'a', num(a, 2, 1), num(a, 3, 3));
            case 'k' -> s.sets(0, num(a, 1, 2));
            case 'l' -> s.sets(1, num(a, 1, 2));
            default -> s.indexes(num(a, 1, 2), num(a, 3, 3));
        };
    }

    public int undo() {
        if (past.isEmpty()) {
            return -1;
        }
        now = past.removeLast();
        return past.size();
    }

    public int years(int seed, int n) {
        if (n < 1 || n > 30) {
            return -1;
        }
        State drawn = now.twin();
        int[] of = {5, 4, 360, 40, 300};
        long[] v = new long[5];
        long r = seed & 0xffffffffL;
        for (int i = 0; i < n; i++) {
            for (int j = 0; j < 5; j++) {
                r = r * 1103515245L + 12345L & 0xffffffffL;
                v[j] = r / 65536 % of[j];
            }
            if (drawn.spans.size() == 20) {
                drawn.goes(0);
            }
            drawn.comes((int) v[0], (int) v[1], (int) v[2], (int) Math.min(359, v[2] + v[3]), (int) v[4] + 1);
        }
        Sums s = new Sums(drawn);
        return tell(s.all, s.total, drawn.gaps().size());
    }

    // ---- kept

    public boolean keep(int i) {
        if (i < 0 || i > 1) {
            return false;
        }
        kept[i] = now.twin();
        return true;
    }

    public boolean again(int i) {
        if (i < 0 || i > 1 || kept[i] == null) {
            return false;
        }
        now = kept[i].twin();
        past.clear();
        return true;
    }

    public int count(int what) {
        switch (what) {
            case 0: return now.spans.size();
            case 1: return now.credit;
            case 2: return now.least;
            case 3:
                int digits = 0;
                for (int i = 0; i < 4; i++) {
                    digits = 10 * digits + "wscv".indexOf(now.ranks.charAt(i));
                }
                return digits;
            case 4: return (int) new Sums(now).all;
            case 5: return past.size();
            case 6: return row.size();
            case 7: return text.length();
            case 8:
                int n = 0;
                for (int v : now.index) {
                    n += v == 100 ? 0 : 1;
                }
                return n;
            default: return -1;
        }
    }

    public long row(int i) {
        if (i < 0 || i >= row.size()) {
            throw new NoSuchElementException();
        }
        return row.get(i);
    }
}

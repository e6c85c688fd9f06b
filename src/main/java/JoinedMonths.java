import java.util.NoSuchElementException;

/** One person's months that were insured in several countries, joined: see ../shared/DOC.md. */
public final class JoinedMonths {
    public static final int NONE = -1;

    private static final int SO_ALREADY = -2;
    private static final int NOT_THERE = -2;
    private static final int TOO_MANY = -3;
    private static final int EVEN = 100000;

    private static final int MONTHS = 360;
    private static final int YEARS = 30;
    private static final int YEAR_MONTHS = 12;
    private static final int COUNTRIES = 5;
    private static final int KINDS = 4;
    private static final int SPANS = 20;
    private static final int BOUGHT = 24;
    private static final int PAY_MOST = 999;
    private static final int SIGNS = 80;
    private static final int UNDOS = 8;
    private static final int SHELVES = 2;
    private static final int DRAWN = 30;
    /** 20 SPANS have 40 ends, so there are 39 pieces at most, of three numbers each. */
    private static final int ROW_ROOM = 120;

    private static final int COUNTRY = 0;
    private static final int KIND = 1;
    private static final int FROM = 2;
    private static final int TO = 3;
    private static final int PAY = 4;
    private static final int SPAN_NUMBERS = 5;

    private static final int NEEDED = 0;
    private static final int FLAT = 1;
    private static final int PART = 2;
    private static final int AGE = 3;
    private static final int LAW_NUMBERS = 4;
    private static final int[] LAW_LEAST = {1, 0, 0, 0};
    private static final int[] LAW_MOST = {240, 99, 99, 359};
    private static final int[] LAW_DIGITS = {3, 2, 2, 3};

    private static final int CREDIT = 0;
    private static final int LEAST = 1;
    private static final int CREDIT_MOST = 24;
    private static final int LEAST_MOST = 60;
    private static final int INDEX_LEAST = 50;
    private static final int INDEX_MOST = 400;
    private static final int INDEX_PLAIN = 100;

    private static final int VOLUNTARY = 3;
    private static final String COUNTRY_LETTERS = "abcde";
    private static final String KIND_LETTERS = "wscv";
    private static final String LAW_SIGNS = "0123";
    private static final String ACT_SIGNS = "+-mrkli";
    /** The KINDS in the order of their letters: c, s, v, w. */
    private static final int[] KINDS_BY_LETTER = {2, 1, 3, 0};

    private final Text text;
    private final Row row;
    private final State now;
    /** What would be: every change is tried here first, so that a refusal leaves no trace. */
    private final State trial;
    private final Claims claims;
    private final Claims trialClaims;
    private final State[] past;
    private int pastSize;
    private final State[] shelf;
    private final boolean[] shelved;
    private final int[] losses;

    public JoinedMonths() {
        text = new Text();
        row = new Row();
        now = new State(SPANS);
        trial = new State(SPANS + BOUGHT);
        claims = new Claims();
        trialClaims = new Claims();
        past = new State[UNDOS];
        for (int i = 0; i < UNDOS; i++) {
            past[i] = new State(SPANS);
        }
        pastSize = 0;
        shelf = new State[SHELVES];
        for (int i = 0; i < SHELVES; i++) {
            shelf[i] = new State(SPANS);
        }
        shelved = new boolean[SHELVES];
        losses = new int[SPANS];
        claims.reckon(now);
    }

    // ---- texts

    public int sign(int v) {
        return text.append(v);
    }

    public boolean end(int n) {
        return text.cut(n);
    }

    public int spans() {
        trial.copy(now);
        text.open();
        for (int i = 0; i < SIGNS && text.goesOn(); i++) {
            if (trial.size >= SPANS) {
                text.fail(text.at);
            } else {
                readPossibleSpan();
            }
        }
        return text.close() ? adopt(trial.size) : text.fault();
    }

    public int laws() {
        trial.copy(now);
        text.open();
        int told = 0;
        for (int i = 0; i < SIGNS && text.goesOn(); i++) {
            int country = text.letter(COUNTRY_LETTERS);
            for (int what = 0; what < LAW_NUMBERS; what++) {
                int v = text.number(LAW_DIGITS[what], LAW_LEAST[what], LAW_MOST[what]);
                if (text.isGood()) {
                    trial.amend(country, what, v);
                }
            }
            told++;
        }
        return text.close() ? adopt(told) : text.fault();
    }

    public int ranks() {
        trial.copy(now);
        text.open();
        int seen = 0;
        for (int place = 0; place < KINDS; place++) {
            int start = text.at;
            int kind = text.letter(KIND_LETTERS);
            if (text.isGood() && (seen >> kind & 1) == 1) {
                text.fail(start);
            }
            if (text.isGood()) {
                seen |= 1 << kind;
                trial.order[place] = kind;
            }
        }
        if (text.goesOn()) {
            text.fail(text.at);
        }
        return text.close() ? adopt(movedKinds()) : text.fault();
    }

    public int sheet(int kind, int n, int f, int step) {
        if (kind < 0 || kind > 3 || n > SPANS) {
            return NONE;
        }
        if (kind == 3) {
            return -3;
        }
        if (n < 0) {
            return -2;
        }
        int changed = 0;
        for (int k = 0; k < n && k < now.size; k++) {
            int pay = Math.max(1, Math.min(PAY_MOST, sheetEntry(kind, f + k * step)));
            if (now.numberOf(k, PAY) != pay) {
                now.putPay(k, pay);
                changed++;
            }
        }
        claims.reckon(now);
        return changed;
    }

    // ---- what there is

    public int span(int k, int what) throws NoSuchElementException {
        if (!now.has(k) || what < 0 || what > SPAN_NUMBERS) {
            throw new NoSuchElementException("no such number of a span");
        }
        return what == SPAN_NUMBERS ? claims.months.countedBy(k) : now.numberOf(k, what);
    }

    public int law(int country, int what) throws NoSuchElementException {
        if (!isCountry(country) || !isLawNumber(what)) {
            throw new NoSuchElementException("no such number of a law");
        }
        return now.lawOf(country, what);
    }

    public int month(int m, int what) throws NoSuchElementException {
        if (!isMonth(m) || what < 0 || what > 4) {
            throw new NoSuchElementException("no such number of a month");
        }
        Months months = claims.months;
        switch (what) {
            case 0:
                return months.wayOf(m);
            case 1:
                return months.land[m];
            case 2:
                return months.wage[m];
            case 3:
                return months.by[m];
            default:
                return months.covers[m];
        }
    }

    public int own(int country) {
        if (!isCountry(country)) {
            return NONE;
        }
        row.clear();
        row.tell(claims.counted[country]);
        row.tell(claims.owned[country] - claims.counted[country]);
        row.tell(claims.ownWage[country]);
        row.tell(claims.base[country]);
        return claims.owned[country];
    }

    public int total() {
        row.clear();
        row.tell(claims.wage);
        row.tell(claims.bearer);
        row.tell(claims.lent);
        return claims.joined;
    }

    public int year(int y) {
        if (!isYear(y)) {
            return NONE;
        }
        Months months = claims.months;
        row.clear();
        int found = 0;
        for (int country = 0; country < COUNTRIES; country++) {
            int ofCountry = months.ofCountryIn(country, y);
            row.tell(ofCountry);
            found += ofCountry;
        }
        row.tell(months.payIn(y));
        row.tell(now.index[y]);
        return found;
    }

    public int gaps() {
        Months months = claims.months;
        row.clear();
        for (int g = 0; g < months.gapCount; g++) {
            row.tell(months.gapFirst[g]);
            row.tell(months.gapLength[g]);
            row.tell(months.gapLength[g] <= now.credit ? 1 : 0);
        }
        return months.gapCount;
    }

    public int doubles() {
        int[] covers = claims.months.covers;
        int found = 0;
        int most = 0;
        int first = NONE;
        for (int m = 0; m < MONTHS; m++) {
            if (covers[m] > 1) {
                found++;
            }
            if (covers[m] > most) {
                most = covers[m];
                first = m;
            }
        }
        row.clear();
        row.tell(most);
        row.tell(first);
        return found;
    }

    public int pieces() {
        int[] by = claims.months.by;
        row.clear();
        int found = 0;
        int start = 0;
        for (int m = 1; m <= MONTHS; m++) {
            if (m < MONTHS && by[m] == by[start]) {
                continue;
            }
            if (by[start] != NONE) {
                row.tell(by[start]);
                row.tell(start);
                row.tell(m - start);
                found++;
            }
            start = Math.min(m, MONTHS - 1);
        }
        return found;
    }

    public int both(int one, int other) {
        if (!isCountry(one) || !isCountry(other) || one == other) {
            return NONE;
        }
        int found = 0;
        for (int m = 0; m < MONTHS; m++) {
            if (now.coversBy(one, m) && now.coversBy(other, m)) {
                found++;
            }
        }
        return found;
    }

    // ---- what is paid

    public int national(int country) {
        return isCountry(country) ? claims.nation[country] : NONE;
    }

    public int theoretical(int country) {
        if (!isCountry(country)) {
            return NONE;
        }
        row.clear();
        row.tell(claims.shared[country]);
        return claims.theory[country];
    }

    public int paid(int country) {
        if (!isCountry(country)) {
            return NONE;
        }
        int pays = claims.paysOf(country);
        row.clear();
        row.tell(pays == 0 ? 0 : pays == claims.nation[country] ? 1 : 2);
        return pays;
    }

    public int at(int m) {
        if (!isMonth(m)) {
            return NONE;
        }
        int together = 0;
        int bits = 0;
        for (int country = 0; country < COUNTRIES; country++) {
            if (now.lawOf(country, AGE) <= m) {
                together += claims.paysOf(country);
                bits |= 1 << country;
            }
        }
        row.clear();
        row.tell(bits);
        row.tell(claims.all);
        return together;
    }

    public int most() {
        if (claims.all == 0) {
            return NOT_THERE;
        }
        int first = 0;
        for (int country = 1; country < COUNTRIES; country++) {
            if (claims.paysOf(country) > claims.paysOf(first)) {
                first = country;
            }
        }
        row.clear();
        row.tell(claims.paysOf(first));
        row.tell(claims.paysOf(first) * 100 / claims.all);
        return first;
    }

    // ---- what would be

    public int late(int country, int kind, int from, int to, int pay) {
        trial.copy(now);
        int answer = trial.bring(country, kind, from, to, pay);
        return answer < 0 ? answer : tellTrial();
    }

    public int without(int k) {
        trial.copy(now);
        return trial.drop(k) < 0 ? NONE : tellTrial();
    }

    public int lawful(int country, int what, int v) {
        trial.copy(now);
        return trial.amend(country, what, v) == NONE ? NONE : tellTrial();
    }

    public int settled(int c, int l) {
        trial.copy(now);
        if (trial.adjust(CREDIT, c) == NONE || trial.adjust(LEAST, l) == NONE) {
            return NONE;
        }
        return tellTrial();
    }

    public int instead(int k, int country, int kind, int from, int to, int pay) {
        trial.copy(now);
        // SPAN k goes first, so that there is always room for the other one.
        if (trial.drop(k) < 0 || trial.bring(country, kind, from, to, pay) < 0) {
            return NONE;
        }
        return tellTrial();
    }

    public int worth() {
        for (int k = 0; k < now.size; k++) {
            trial.copy(now);
            trial.drop(k);
            trialClaims.reckon(trial);
            losses[k] = claims.all - trialClaims.all;
        }
        row.clear();
        int told = 0;
        for (int place = 0; place < now.size; place++) {
            int next = greatestLoss(told);
            told |= 1 << next;
            row.tell(next);
        }
        return now.size;
    }

    public int best() {
        int greatest = NONE;
        int found = 0;
        trial.copy(now);
        // Two bits a place, so that counting up goes through the orders as their letters do.
        for (int code = 0; code < 256; code++) {
            if (!putOrder(code)) {
                continue;
            }
            trialClaims.reckon(trial);
            if (trialClaims.all > greatest) {
                greatest = trialClaims.all;
                found = code;
            }
        }
        row.clear();
        for (int place = 0; place < KINDS; place++) {
            row.tell(kindInCode(found, place));
        }
        return greatest;
    }

    public int buys(int country, int n, int p) {
        if (!isCountry(country) || n < 1 || n > BOUGHT || p < 1 || p > PAY_MOST) {
            return NONE;
        }
        if (now.size == 0) {
            return NOT_THERE;
        }
        trial.copy(now);
        Months months = claims.months;
        int bought = 0;
        // By what there is, not by the trial: a GAP that gets short by what is bought is CREDITED only behind it all.
        for (int m = months.firstCovered(); m < MONTHS && bought < n; m++) {
            if (months.wayOf(m) == 0) {
                trial.append(country, VOLUNTARY, m, m, p);
                bought++;
            }
        }
        trialClaims.reckon(trial);
        row.clear();
        row.tell(bought);
        return EVEN + trialClaims.all - claims.all;
    }

    public int missing(int country) {
        if (!isCountry(country)) {
            return NONE;
        }
        int needed = now.lawOf(country, NEEDED);
        row.clear();
        row.tell(Math.max(0, needed - claims.joined));
        return Math.max(0, needed - claims.owned[country]);
    }

    public int earns(int country) {
        if (!isCountry(country)) {
            return NONE;
        }
        int needed = now.lawOf(country, NEEDED);
        int found = 0;
        for (int m = 0; m < MONTHS; m++) {
            if (claims.months.land[m] == country) {
                found++;
            }
            if (found >= needed) {
                return m;
            }
        }
        return NOT_THERE;
    }

    public int part(int country, int m) {
        if (!isCountry(country) || !isMonth(m)) {
            return NONE;
        }
        int upper = 0;
        int lower = 0;
        for (int i = 0; i <= m; i++) {
            int land = claims.months.land[i];
            upper += land == country ? 1 : 0;
            lower += land != NONE ? 1 : 0;
        }
        if (lower == 0) {
            return NOT_THERE;
        }
        int divisor = commonDivisor(upper, lower);
        row.clear();
        row.tell(upper / divisor);
        row.tell(lower / divisor);
        return 0;
    }

    // ---- changes

    public int comes(int country, int kind, int from, int to, int pay) {
        trial.copy(now);
        return adopt(trial.bring(country, kind, from, to, pay));
    }

    public int goes(int k) {
        trial.copy(now);
        return adopt(trial.drop(k));
    }

    public int lasts(int k, int from, int to) {
        trial.copy(now);
        return adopt(trial.stretch(k, from, to));
    }

    public int becomes(int country, int what, int v) {
        trial.copy(now);
        return adopt(trial.amend(country, what, v));
    }

    public int indexes(int y, int v) {
        trial.copy(now);
        return adopt(trial.putIndex(y, v));
    }

    public int sets(int what, int v) {
        trial.copy(now);
        return adopt(trial.adjust(what, v));
    }

    public int day() {
        trial.copy(now);
        text.open();
        int done = 0;
        boolean stopped = false;
        // All ACTS are read, also behind one that can't be: a wrong sign there undoes the trial.
        for (int i = 0; i < SIGNS && text.goesOn(); i++) {
            int answer = readAct(!stopped);
            if (!stopped && answer >= 0) {
                done++;
            } else {
                stopped = true;
            }
        }
        if (!text.close()) {
            return text.fault();
        }
        if (done > 0) {
            adopt(done);
        }
        row.clear();
        row.tell(stopped ? 1 : 0);
        row.tell(claims.all);
        return done;
    }

    public int undo() {
        if (pastSize <= 0 || pastSize > UNDOS) {
            return NONE;
        }
        pastSize--;
        now.copy(past[pastSize]);
        claims.reckon(now);
        return pastSize;
    }

    public int years(int seed, int n) {
        if (n < 1 || n > DRAWN) {
            return NONE;
        }
        // Drawn in the trial alone: what years() did is forgotten behind it.
        trial.copy(now);
        int r = seed;
        for (int i = 0; i < n; i++) {
            r = nextDraw(r);
            int country = drawn(r, COUNTRIES);
            r = nextDraw(r);
            int kind = drawn(r, KINDS);
            r = nextDraw(r);
            int from = drawn(r, MONTHS);
            r = nextDraw(r);
            int to = Math.min(MONTHS - 1, from + drawn(r, 40));
            r = nextDraw(r);
            int pay = 1 + drawn(r, 300);
            if (trial.size >= SPANS) {
                trial.drop(0);
            }
            trial.bring(country, kind, from, to, pay);
        }
        trialClaims.reckon(trial);
        row.clear();
        row.tell(trialClaims.joined);
        row.tell(trialClaims.months.gapCount);
        return trialClaims.all;
    }

    // ---- kept

    public boolean keep(int i) {
        if (i < 0 || i >= SHELVES) {
            return false;
        }
        shelf[i].copy(now);
        shelved[i] = true;
        return true;
    }

    public boolean again(int i) {
        if (i < 0 || i >= SHELVES || !shelved[i]) {
            return false;
        }
        now.copy(shelf[i]);
        claims.reckon(now);
        pastSize = 0;
        return true;
    }

    public int count(int what) {
        switch (what) {
            case 0:
                return now.size;
            case 1:
                return now.credit;
            case 2:
                return now.least;
            case 3:
                return now.orderAsDigits();
            case 4:
                return claims.all;
            case 5:
                return pastSize;
            case 6:
                return row.size;
            case 7:
                return text.length;
            case 8:
                return now.changedIndexes();
            default:
                return NONE;
        }
    }

    public long row(int i) throws NoSuchElementException {
        if (i < 0 || i >= row.size) {
            throw new NoSuchElementException("no such number of the row");
        }
        return row.numbers[i];
    }

    // ---- what the calls share

    private static boolean isMonth(int m) {
        return m >= 0 && m < MONTHS;
    }

    private static boolean isYear(int y) {
        return y >= 0 && y < YEARS;
    }

    private static boolean isCountry(int country) {
        return country >= 0 && country < COUNTRIES;
    }

    private static boolean isLawNumber(int what) {
        return what >= 0 && what < LAW_NUMBERS;
    }

    private static int sheetEntry(int kind, int v) {
        return kind == 0 ? (byte) v : kind == 1 ? (short) v : v;
    }

    private static int nextDraw(int r) {
        return r * 1103515245 + 12345;
    }

    private static int drawn(int r, int n) {
        return n < 1 ? 0 : (r >>> 16) % n;
    }

    private static int commonDivisor(int upper, int lower) {
        int a = lower;
        int b = upper;
        for (int i = 0; i < MONTHS && b > 0; i++) {
            int rest = a % b;
            a = b;
            b = rest;
        }
        return Math.max(1, a);
    }

    /** The trial becomes what there is, and what there was can be undone, unless the answer is below 0. */
    private int adopt(int answer) {
        if (answer < 0) {
            return answer;
        }
        remember();
        now.copy(trial);
        claims.reckon(now);
        return answer;
    }

    private void remember() {
        if (pastSize >= UNDOS) {
            State oldest = past[0];
            for (int i = 1; i < UNDOS; i++) {
                past[i - 1] = past[i];
            }
            past[UNDOS - 1] = oldest;
            pastSize = UNDOS - 1;
        }
        past[pastSize].copy(now);
        pastSize++;
    }

    /** The ROW tells the MONTHS that the trial has another way; the answer what it pays more. */
    private int tellTrial() {
        trialClaims.reckon(trial);
        int changed = 0;
        int first = NONE;
        int last = NONE;
        for (int m = 0; m < MONTHS; m++) {
            if (claims.months.isLike(trialClaims.months, m)) {
                continue;
            }
            changed++;
            first = first == NONE ? m : first;
            last = m;
        }
        row.clear();
        row.tell(changed);
        row.tell(first);
        row.tell(last);
        return EVEN + trialClaims.all - claims.all;
    }

    private int greatestLoss(int told) {
        int found = NONE;
        for (int k = 0; k < now.size; k++) {
            if ((told >> k & 1) == 0 && (found == NONE || losses[k] > losses[found])) {
                found = k;
            }
        }
        return found;
    }

    private int movedKinds() {
        int moved = 0;
        for (int place = 0; place < KINDS; place++) {
            if (trial.order[place] != now.order[place]) {
                moved++;
            }
        }
        return moved;
    }

    private static int kindInCode(int code, int place) {
        return KINDS_BY_LETTER[code >> 2 * (KINDS - 1 - place) & 3];
    }

    /** Whether the code is an order of all KINDS, which the trial then has. */
    private boolean putOrder(int code) {
        int seen = 0;
        for (int place = 0; place < KINDS; place++) {
            int kind = kindInCode(code, place);
            seen |= 1 << kind;
            trial.order[place] = kind;
        }
        return seen == (1 << KINDS) - 1;
    }

    private void readPossibleSpan() {
        int country = text.letter(COUNTRY_LETTERS);
        int kind = text.letter(KIND_LETTERS);
        int from = text.number(3, 0, MONTHS - 1);
        int to = text.number(3, from, MONTHS - 1);
        int pay = text.number(3, 1, PAY_MOST);
        if (text.isGood()) {
            trial.bring(country, kind, from, to, pay);
        }
    }

    /** One ACT is read and, if it shall be, done in the trial: its answer (NONE if it was not done). */
    private int readAct(boolean toDo) {
        switch (text.letter(ACT_SIGNS)) {
            case 0:
                return readComing(toDo);
            case 1: {
                int k = text.digits(2);
                return mayDo(toDo) ? trial.drop(k) : NONE;
            }
            case 2:
                return readLasting(toDo);
            case 3:
                return readBecoming(toDo);
            case 4: {
                int v = text.digits(2);
                return mayDo(toDo) ? trial.adjust(CREDIT, v) : NONE;
            }
            case 5: {
                int v = text.digits(2);
                return mayDo(toDo) ? trial.adjust(LEAST, v) : NONE;
            }
            case 6: {
                int y = text.digits(2);
                int v = text.digits(3);
                return mayDo(toDo) ? trial.putIndex(y, v) : NONE;
            }
            default:
                return NONE;
        }
    }

    private boolean mayDo(boolean toDo) {
        return toDo && text.isGood();
    }

    private int readComing(boolean toDo) {
        int country = text.letter(COUNTRY_LETTERS);
        int kind = text.letter(KIND_LETTERS);
        int from = text.digits(3);
        int to = text.digits(3);
        int pay = text.digits(3);
        return mayDo(toDo) ? trial.bring(country, kind, from, to, pay) : NONE;
    }

    private int readLasting(boolean toDo) {
        int k = text.digits(2);
        int from = text.digits(3);
        int to = text.digits(3);
        return mayDo(toDo) ? trial.stretch(k, from, to) : NONE;
    }

    private int readBecoming(boolean toDo) {
        int country = text.letter(COUNTRY_LETTERS);
        int what = text.letter(LAW_SIGNS);
        int v = text.digits(3);
        return mayDo(toDo) ? trial.amend(country, what, v) : NONE;
    }

    /** The numbers that were told last. */
    private static final class Row {
        private final long[] numbers = new long[ROW_ROOM];
        private int size = 0;

        private void clear() {
            size = 0;
        }

        private void tell(long number) {
            if (size < numbers.length) {
                numbers[size] = number;
                size++;
            }
        }
    }

    /** THE TEXT, and where it is being read; behind a fault nothing more is read. */
    private static final class Text {
        private final char[] signs = new char[SIGNS];
        private int length = 0;
        private int at = 0;
        private int faultAt = NONE;

        private int append(int v) {
            if (length > SIGNS - 4) {
                return NONE;
            }
            for (int shift = 24; shift >= 0; shift -= 8) {
                signs[length] = (char) (v >>> shift & 255);
                length++;
            }
            return length;
        }

        private boolean cut(int n) {
            if (n < 0 || n > length) {
                return false;
            }
            length = n;
            return true;
        }

        private void open() {
            at = 0;
            faultAt = NONE;
        }

        private boolean isGood() {
            return faultAt == NONE;
        }

        private boolean goesOn() {
            return isGood() && at < length;
        }

        private void fail(int position) {
            if (isGood()) {
                faultAt = position;
            }
        }

        /** The TEXT is emptied: whether it was read without a fault. */
        private boolean close() {
            length = 0;
            return isGood();
        }

        private int fault() {
            return -1 - faultAt;
        }

        /** Which of the letters comes next; NONE behind a fault. */
        private int letter(String letters) {
            int found = goesOn() ? letters.indexOf(signs[at]) : NONE;
            if (found < 0) {
                fail(at);
                return NONE;
            }
            at++;
            return found;
        }

        private int digits(int n) {
            int v = 0;
            for (int i = 0; i < n; i++) {
                if (!goesOn() || signs[at] < '0' || signs[at] > '9') {
                    fail(at);
                    return 0;
                }
                v = v * 10 + (signs[at] - '0');
                at++;
            }
            return v;
        }

        /** Like digits(), but a number that can't be is a fault at its last digit. */
        private int number(int n, int least, int most) {
            int v = digits(n);
            if (v < least || v > most) {
                fail(at - 1);
            }
            return v;
        }
    }

    /** SPANS, LAWS, RANKS, INDEXES, CREDIT, LEAST; every SPAN and number in it can be. */
    private static final class State {
        private int size = 0;
        private final int[] spans;
        private final int[] laws = new int[COUNTRIES * LAW_NUMBERS];
        private final int[] order = new int[KINDS];
        private final int[] index = new int[YEARS];
        private int credit = 6;
        private int least = 12;

        private State(int room) {
            spans = new int[Math.max(0, room) * SPAN_NUMBERS];
            for (int i = 0; i < laws.length; i += LAW_NUMBERS) {
                laws[i + NEEDED] = 60;
                laws[i + FLAT] = 10;
                laws[i + PART] = 20;
                laws[i + AGE] = 300;
            }
            for (int i = 0; i < KINDS; i++) {
                order[i] = i;
            }
            for (int i = 0; i < YEARS; i++) {
                index[i] = INDEX_PLAIN;
            }
        }

        private void copy(State other) {
            size = Math.min(other.size, spans.length / SPAN_NUMBERS);
            System.arraycopy(other.spans, 0, spans, 0, size * SPAN_NUMBERS);
            System.arraycopy(other.laws, 0, laws, 0, laws.length);
            System.arraycopy(other.order, 0, order, 0, order.length);
            System.arraycopy(other.index, 0, index, 0, index.length);
            credit = other.credit;
            least = other.least;
        }

        private boolean has(int k) {
            return k >= 0 && k < size;
        }

        private int numberOf(int k, int what) {
            return spans[k * SPAN_NUMBERS + what];
        }

        private int lawOf(int country, int what) {
            return laws[country * LAW_NUMBERS + what];
        }

        private boolean coversBy(int country, int m) {
            for (int k = 0; k < size; k++) {
                if (numberOf(k, COUNTRY) == country && numberOf(k, FROM) <= m && m <= numberOf(k, TO)) {
                    return true;
                }
            }
            return false;
        }

        private int bring(int country, int kind, int from, int to, int pay) {
            if (!isCountry(country) || kind < 0 || kind >= KINDS || !canLast(from, to)
                    || pay < 1 || pay > PAY_MOST) {
                return NONE;
            }
            if (size >= SPANS) {
                return TOO_MANY;
            }
            append(country, kind, from, to, pay);
            return size;
        }

        private static boolean canLast(int from, int to) {
            return isMonth(from) && isMonth(to) && from <= to;
        }

        /** Without the document's limit of 20, for MONTHS that are bought. */
        private void append(int country, int kind, int from, int to, int pay) {
            int start = size * SPAN_NUMBERS;
            if (start + SPAN_NUMBERS > spans.length) {
                return;
            }
            spans[start + COUNTRY] = country;
            spans[start + KIND] = kind;
            spans[start + FROM] = from;
            spans[start + TO] = to;
            spans[start + PAY] = pay;
            size++;
        }

        private int drop(int k) {
            if (!has(k)) {
                return NONE;
            }
            int start = k * SPAN_NUMBERS;
            int behind = start + SPAN_NUMBERS;
            System.arraycopy(spans, behind, spans, start, size * SPAN_NUMBERS - behind);
            size--;
            return size;
        }

        private int stretch(int k, int from, int to) {
            if (!has(k) || !canLast(from, to)) {
                return NONE;
            }
            if (numberOf(k, FROM) == from && numberOf(k, TO) == to) {
                return SO_ALREADY;
            }
            spans[k * SPAN_NUMBERS + FROM] = from;
            spans[k * SPAN_NUMBERS + TO] = to;
            return to - from + 1;
        }

        private void putPay(int k, int pay) {
            spans[k * SPAN_NUMBERS + PAY] = pay;
        }

        private int amend(int country, int what, int v) {
            if (!isCountry(country) || !isLawNumber(what) || v < LAW_LEAST[what] || v > LAW_MOST[what]) {
                return NONE;
            }
            int was = lawOf(country, what);
            if (was == v) {
                return SO_ALREADY;
            }
            laws[country * LAW_NUMBERS + what] = v;
            return was;
        }

        private int putIndex(int y, int v) {
            if (!isYear(y) || v < INDEX_LEAST || v > INDEX_MOST) {
                return NONE;
            }
            int was = index[y];
            if (was == v) {
                return SO_ALREADY;
            }
            index[y] = v;
            return was;
        }

        private int adjust(int what, int v) {
            if (what != CREDIT && what != LEAST || v < 0 || v > (what == CREDIT ? CREDIT_MOST : LEAST_MOST)) {
                return NONE;
            }
            int was = what == CREDIT ? credit : least;
            if (was == v) {
                return SO_ALREADY;
            }
            if (what == CREDIT) {
                credit = v;
            } else {
                least = v;
            }
            return was;
        }

        private int orderAsDigits() {
            int digits = 0;
            for (int place = 0; place < KINDS; place++) {
                digits = digits * 10 + order[place];
            }
            return digits;
        }

        private int changedIndexes() {
            int changed = 0;
            for (int y = 0; y < YEARS; y++) {
                changed += index[y] != INDEX_PLAIN ? 1 : 0;
            }
            return changed;
        }

        private int placeOf(int kind) {
            for (int place = 0; place < KINDS; place++) {
                if (order[place] == kind) {
                    return place;
                }
            }
            return KINDS;
        }
    }

    /** How each MONTH stands by a state. */
    private static final class Months {
        /** More than all SPANS that there can be, the bought ones too. */
        private static final int NUMBERS = 64;
        /** More than the standing of any SPAN. */
        private static final int UNCOVERED = 1 << 30;

        private final int[] standing = new int[MONTHS];
        private final int[] covers = new int[MONTHS];
        private final int[] by = new int[MONTHS];
        private final int[] land = new int[MONTHS];
        private final int[] wage = new int[MONTHS];
        private final int[] gapFirst = new int[SPANS + BOUGHT];
        private final int[] gapLength = new int[SPANS + BOUGHT];
        private int gapCount = 0;

        private void reckon(State state) {
            cover(state);
            countCovered(state);
            findGaps();
            creditGaps(state.credit);
        }

        private void cover(State state) {
            for (int m = 0; m < MONTHS; m++) {
                standing[m] = UNCOVERED;
                covers[m] = 0;
            }
            for (int k = 0; k < state.size; k++) {
                int standingOfSpan = standingOf(state, k);
                int to = state.numberOf(k, TO);
                for (int m = state.numberOf(k, FROM); m <= to; m++) {
                    covers[m]++;
                    standing[m] = Math.min(standing[m], standingOfSpan);
                }
            }
        }

        /** One number for all that ranks a SPAN, the least of which a MONTH COUNTS by; its last part is k. */
        private static int standingOf(State state, int k) {
            int standing = state.placeOf(state.numberOf(k, KIND));
            standing = standing * (PAY_MOST + 1) + PAY_MOST - state.numberOf(k, PAY);
            standing = standing * COUNTRIES + state.numberOf(k, COUNTRY);
            return standing * NUMBERS + k;
        }

        private void countCovered(State state) {
            for (int m = 0; m < MONTHS; m++) {
                if (standing[m] == UNCOVERED) {
                    by[m] = NONE;
                    land[m] = NONE;
                    wage[m] = 0;
                } else {
                    int k = standing[m] % NUMBERS;
                    by[m] = k;
                    land[m] = state.numberOf(k, COUNTRY);
                    wage[m] = state.numberOf(k, PAY) * state.index[m / YEAR_MONTHS] / 100;
                }
            }
        }

        private void findGaps() {
            gapCount = 0;
            int ahead = NONE;
            for (int m = 0; m < MONTHS; m++) {
                if (by[m] == NONE) {
                    continue;
                }
                if (ahead != NONE && m - ahead > 1 && gapCount < gapFirst.length) {
                    gapFirst[gapCount] = ahead + 1;
                    gapLength[gapCount] = m - ahead - 1;
                    gapCount++;
                }
                ahead = m;
            }
        }

        private void creditGaps(int credit) {
            for (int g = 0; g < gapCount; g++) {
                int first = gapFirst[g];
                if (gapLength[g] > credit || first < 1) {
                    continue;
                }
                for (int m = first; m < first + gapLength[g]; m++) {
                    land[m] = land[first - 1];
                    wage[m] = wage[first - 1] / 2;
                }
            }
        }

        private int wayOf(int m) {
            return by[m] != NONE ? 1 : land[m] != NONE ? 2 : 0;
        }

        private boolean isLike(Months other, int m) {
            return land[m] == other.land[m] && wage[m] == other.wage[m];
        }

        private int countedBy(int k) {
            int found = 0;
            for (int m = 0; m < MONTHS; m++) {
                found += by[m] == k ? 1 : 0;
            }
            return found;
        }

        private int ofCountryIn(int country, int y) {
            int found = 0;
            for (int m = y * YEAR_MONTHS; m < (y + 1) * YEAR_MONTHS; m++) {
                found += land[m] == country ? 1 : 0;
            }
            return found;
        }

        private int payIn(int y) {
            int together = 0;
            for (int m = y * YEAR_MONTHS; m < (y + 1) * YEAR_MONTHS; m++) {
                together += wage[m];
            }
            return together;
        }

        /** The first MONTH that a SPAN covers; behind all MONTHS without SPANS. */
        private int firstCovered() {
            for (int m = 0; m < MONTHS; m++) {
                if (by[m] != NONE) {
                    return m;
                }
            }
            return MONTHS;
        }
    }

    /** What each COUNTRY owes by a state. */
    private static final class Claims {
        private final Months months = new Months();
        private final int[] owned = new int[COUNTRIES];
        private final int[] counted = new int[COUNTRIES];
        private final int[] ownWage = new int[COUNTRIES];
        private final int[] base = new int[COUNTRIES];
        private final int[] nation = new int[COUNTRIES];
        private final int[] theory = new int[COUNTRIES];
        private final int[] shared = new int[COUNTRIES];
        private int joined = 0;
        private int wage = 0;
        private int bearer = NONE;
        private int lent = 0;
        private int all = 0;

        private void reckon(State state) {
            months.reckon(state);
            addMonths();
            findBearer(state.least);
            layBases(state.least);
            all = 0;
            for (int country = 0; country < COUNTRIES; country++) {
                reckonCountry(state, country);
                all += paysOf(country);
            }
        }

        private void addMonths() {
            for (int country = 0; country < COUNTRIES; country++) {
                owned[country] = 0;
                counted[country] = 0;
                ownWage[country] = 0;
            }
            for (int m = 0; m < MONTHS; m++) {
                int country = months.land[m];
                if (isCountry(country)) {
                    owned[country]++;
                    counted[country] += months.by[m] != NONE ? 1 : 0;
                    ownWage[country] += months.wage[m];
                }
            }
            joined = 0;
            int together = 0;
            for (int country = 0; country < COUNTRIES; country++) {
                joined += owned[country];
                together += ownWage[country];
                ownWage[country] = byMonths(ownWage[country], owned[country]);
            }
            wage = byMonths(together, joined);
        }

        private static int byMonths(int v, int n) {
            return n > 0 ? v / n : 0;
        }

        private void findBearer(int least) {
            bearer = NONE;
            for (int country = 0; country < COUNTRIES; country++) {
                boolean mayBear = owned[country] >= Math.max(1, least);
                if (mayBear && (bearer == NONE || owned[country] > owned[bearer])) {
                    bearer = country;
                }
            }
        }

        private void layBases(int least) {
            lent = 0;
            for (int country = 0; country < COUNTRIES; country++) {
                boolean tooFew = owned[country] < least;
                base[country] = tooFew ? 0 : owned[country];
                lent += tooFew && bearer != NONE ? owned[country] : 0;
            }
            if (bearer != NONE) {
                base[bearer] += lent;
            }
        }

        private void reckonCountry(State state, int country) {
            int needed = state.lawOf(country, NEEDED);
            boolean byItself = owned[country] >= needed && owned[country] > 0;
            nation[country] = byItself ? sum(state, country, owned[country], ownWage[country]) : 0;
            boolean byAll = joined >= needed && base[country] != 0;
            theory[country] = byAll ? sum(state, country, joined, wage) : 0;
            shared[country] = byMonths(theory[country] * base[country], joined);
        }

        private static int sum(State state, int country, int n, int g) {
            int flat = n * state.lawOf(country, FLAT);
            return flat + n * state.lawOf(country, PART) * g / 10000;
        }

        private int paysOf(int country) {
            return Math.max(nation[country], shared[country]);
        }
    }
}

import java.util.Arrays;

/** A board for stage lights, tick by tick; what it promises stands in the project's document. */
public final class CueBoard {
    public static final int NONE = -1, BAD = -2, NO = -3, FULL = -4;

    private static final int NOTHING = 1, BEYOND = 2, SORT = 3, NOUGHT = 4, FEWER = 5, STORE = 6;
    private static final int DIMMER = 0, STROBE = 1, MOVER = 2, SCREEN = 3, GROUP = 4;
    private static final int SPAN = 0, HEAT = 1, REACH = 2, MOST = 3;
    private static final int FOR_ALL = 0, FOR_DIMMERS = 1, FOR_MOVERS = 2;

    private static final int LINES = 4, PLACES = 64, MOST_LIMIT = 1000000;
    private static final int FIXTURES = 24, MOST_NUMBER = 100, GROUPS = 3, SEATS = 6;
    private static final int CHANNELS = 3, ALL_CHANNELS = FIXTURES * CHANNELS;
    private static final int CURVES = 4, POINTS = 8, BYTE = 255, WORD = 65535;
    private static final int CUES = 16, ENTRIES = 12, MOST_FADE = 100;
    private static final int LISTS = 4, STEPS = 8, MOST_FOLLOW = 50;
    private static final int PLAYBACKS = 4, WHOLE = 100;
    private static final int TICKS_A_CALL = 5, MOST_TICKS = 2000;
    private static final int BOOK = 120, NUMBERS = 5, MOST_BACK = 50;

    private static final int DO_LINE = 0, DO_PULL = 1, DO_PLUG = 2, DO_FIXTURE = 3, DO_GROUP = 4,
            DO_MEMBER = 5, DO_PATCH = 6, DO_UNPATCH = 7, DO_FIRM = 8, DO_POINT = 9, DO_BEND = 10,
            DO_ENTRY = 11, DO_LIST = 12, DO_LOAD = 13, DO_GO = 14, DO_STOP = 15, DO_RELEASE = 16,
            DO_MASTER = 17, DO_MERGE = 18, DO_LIMIT = 19, DO_BLACKOUT = 20, DO_TICK = 21;

    private final Book book;
    private final Board live;
    // Made once and cleared for each replay: what a run makes is counted and never given back.
    private final Board again;

    public CueBoard() {
        book = new Book();
        live = new Board();
        again = new Board();
    }

    // ---- 1 lines

    public int line(int l, int n) {
        return enact(DO_LINE, l, n, 0, 0, 0);
    }

    public int pull(int l) {
        return enact(DO_PULL, l, 0, 0, 0, 0);
    }

    public int plug(int l) {
        return enact(DO_PLUG, l, 0, 0, 0, 0);
    }

    public int at(int l, int p) {
        return live.lines.byteAt(l, p);
    }

    public int wide(int l, int p) {
        return live.lines.wordAt(l, p);
    }

    // ---- 2 fixtures

    public int fixture(int kind, int n) {
        return enact(DO_FIXTURE, kind, n, 0, 0, 0);
    }

    public int group(int form, int k) {
        return enact(DO_GROUP, form, k, 0, 0, 0);
    }

    public int member(int g, int i, int f) {
        return enact(DO_MEMBER, g, i, f, 0, 0);
    }

    public int memberAt(int g, int k) {
        return live.rig.memberOf(g, k);
    }

    public int asks(int f, int ask) {
        return live.rig.answer(f, ask);
    }

    public int trace(int i) {
        return live.rig.traceAt(i);
    }

    public int about(int f, int what) {
        return live.tellOfFixture(f, what);
    }

    // ---- 3 patching

    public int patch(int f, int l, int p) {
        return enact(DO_PATCH, f, l, p, 0, 0);
    }

    public int unpatch(int f) {
        return enact(DO_UNPATCH, f, 0, 0, 0, 0);
    }

    public int firm(int f, boolean on) {
        return enact(DO_FIRM, f, on ? 1 : 0, 0, 0, 0);
    }

    // ---- 4 curves

    public int point(int curve, int x, int bits) {
        return enact(DO_POINT, curve, x, bits, 0, 0);
    }

    public int curve(int curve, int v) {
        return live.curves.bitsAt(curve, v);
    }

    public int bend(int f, int c, int curve) {
        return enact(DO_BEND, f, c, curve, 0, 0);
    }

    // ---- 5 cues, lists, playbacks

    public int entry(int cue, int f, int c, int value, int ticks) {
        return enact(DO_ENTRY, cue, f, c, value, ticks);
    }

    public int list(int list, int cue, int follow) {
        return enact(DO_LIST, list, cue, follow, 0, 0);
    }

    public int load(int p, int list) {
        return enact(DO_LOAD, p, list, 0, 0, 0);
    }

    public int go(int p) {
        return enact(DO_GO, p, 0, 0, 0, 0);
    }

    public int stop(int p) {
        return enact(DO_STOP, p, 0, 0, 0, 0);
    }

    public int release(int p) {
        return enact(DO_RELEASE, p, 0, 0, 0, 0);
    }

    public int master(int p, int m) {
        return enact(DO_MASTER, p, m, 0, 0, 0);
    }

    public int merge(int f, int c, boolean latest) {
        return enact(DO_MERGE, f, c, latest ? 1 : 0, 0, 0);
    }

    public int value(int p, int f, int c) {
        return live.valueIn(p, f, c);
    }

    public int playback(int p, int what) {
        return live.tellOfPlayback(p, what);
    }

    // ---- 6 ticks

    public int limit(int l, int n) {
        return enact(DO_LIMIT, l, n, 0, 0, 0);
    }

    public int heat(int l) {
        return live.lines.heatOf(l);
    }

    public int over(int l) {
        return live.lines.overOf(l);
    }

    public int blackout(boolean on) {
        return enact(DO_BLACKOUT, on ? 1 : 0, 0, 0, 0, 0);
    }

    public int tick(int n) {
        return enact(DO_TICK, n, 0, 0, 0, 0);
    }

    public int found(int finding) {
        return live.findings.countOf(finding);
    }

    // ---- 7 the book

    public int digest() {
        return live.sum;
    }

    public int replay() {
        if (book.isExceeded()) {
            return NO;
        }
        playOn(again);
        return again.sum;
    }

    public int back(int n) {
        if (n < 0 || n > MOST_BACK) {
            return BAD;
        }
        if (book.isExceeded() || live.ticks <= n) {
            return NO;
        }
        book.cutBehind(live.ticks - n);
        playOn(live);
        return live.ticks;
    }

    public int told(int what) {
        switch (what) {
            case 0: return live.rig.count;
            case 1: return live.ticks;
            case 2: return book.calls;
            case 3: return live.mixer.dark ? 1 : 0;
            case 4: return live.mixer.grand;
            default: return BAD;
        }
    }

    /** Every call that may enter THE BOOK comes through here, so that none is forgotten. */
    private int enact(int act, int a, int b, int c, int d, int e) {
        int answer = live.perform(act, a, b, c, d, e);
        if (answer >= 0) {
            book.write(act, a, b, c, d, e);
        }
        return answer;
    }

    private void playOn(Board board) {
        board.clear();
        int[] given = book.numbers;
        int end = Math.min(book.calls, BOOK);
        for (int i = 0; i < end; i++) {
            int k = i * NUMBERS;
            board.perform(book.acts[i], given[k], given[k + 1], given[k + 2], given[k + 3], given[k + 4]);
        }
    }

    /** The first calls that acted, with the numbers that they were given. */
    private static final class Book {
        final int[] acts = new int[BOOK];
        final int[] numbers = new int[BOOK * NUMBERS];
        // BOOK + 1 says that there were more than it has.
        int calls = 0;

        Book() {
        }

        boolean isExceeded() {
            return calls > BOOK;
        }

        void write(int act, int a, int b, int c, int d, int e) {
            if (calls < BOOK) {
                acts[calls] = act;
                int k = calls * NUMBERS;
                numbers[k] = a;
                numbers[k + 1] = b;
                numbers[k + 2] = c;
                numbers[k + 3] = d;
                numbers[k + 4] = e;
            }
            calls = Math.min(calls + 1, BOOK + 1);
        }

        /** The call in which that TICK went stays, with the TICKS that went up to it. */
        void cutBehind(int tick) {
            int left = tick;
            for (int i = 0; i < calls && i < BOOK; i++) {
                if (acts[i] != DO_TICK) {
                    continue;
                }
                int went = numbers[i * NUMBERS];
                if (went >= left) {
                    numbers[i * NUMBERS] = left;
                    calls = i + 1;
                    return;
                }
                left -= went;
            }
        }
    }

    /** How often each kind of FINDING came. */
    private static final class Findings {
        private final int[] counts = new int[STORE + 1];

        Findings() {
        }

        void clear() {
            Arrays.fill(counts, 0);
        }

        int note(int finding) {
            if (finding >= NOTHING && finding <= STORE) {
                counts[finding]++;
            }
            return -10 - finding;
        }

        int countOf(int finding) {
            return finding < NOTHING || finding > STORE ? BAD : counts[finding];
        }
    }

    /** LINES of bytes, and how hot they are. */
    private static final class Lines {
        final Findings findings;
        final int[] bytes = new int[LINES * PLACES];
        // NONE: a LINE that was never told.
        final int[] places = new int[LINES];
        final boolean[] plugged = new boolean[LINES];
        final int[] limits = new int[LINES];
        final int[] heats = new int[LINES];
        // Kept apart from heats: a LIMIT that is told later does not change what was over.
        final boolean[] overs = new boolean[LINES];

        Lines(Findings findings) {
            this.findings = findings;
        }

        void clear() {
            Arrays.fill(bytes, 0);
            Arrays.fill(places, NONE);
            Arrays.fill(limits, MOST_LIMIT);
            Arrays.fill(heats, 0);
            for (int l = 0; l < LINES; l++) {
                plugged[l] = false;
                overs[l] = false;
            }
        }

        static boolean isLine(int l) {
            return l >= 0 && l < LINES;
        }

        /** Whether a LINE has the place, be it PULLED or not. */
        boolean reaches(int l, int p) {
            return p >= 0 && p < places[l];
        }

        int tell(int l, int n) {
            if (!isLine(l) || n > PLACES) {
                return BAD;
            }
            if (n < 0) {
                return findings.note(FEWER);
            }
            places[l] = n;
            plugged[l] = true;
            blank(l);
            return 1;
        }

        int pullOut(int l) {
            if (!isLine(l)) {
                return BAD;
            }
            if (!plugged[l]) {
                return NO;
            }
            plugged[l] = false;
            return 1;
        }

        int plugIn(int l) {
            if (!isLine(l)) {
                return BAD;
            }
            if (plugged[l] || places[l] == NONE) {
                return NO;
            }
            plugged[l] = true;
            blank(l);
            return 1;
        }

        int byteAt(int l, int p) {
            if (!isLine(l)) {
                return BAD;
            }
            if (!plugged[l]) {
                return findings.note(NOTHING);
            }
            return reaches(l, p) ? bytes[l * PLACES + p] : findings.note(BEYOND);
        }

        int wordAt(int l, int p) {
            if (!isLine(l)) {
                return BAD;
            }
            if (!plugged[l]) {
                return findings.note(NOTHING);
            }
            if (!reaches(l, p) || !reaches(l, p + 1)) {
                return findings.note(BEYOND);
            }
            return bytes[l * PLACES + p] * 256 + bytes[l * PLACES + p + 1];
        }

        int setLimit(int l, int n) {
            if (!isLine(l) || n < 0 || n > MOST_LIMIT) {
                return BAD;
            }
            limits[l] = n;
            return 1;
        }

        int heatOf(int l) {
            return isLine(l) ? heats[l] : BAD;
        }

        int overOf(int l) {
            if (!isLine(l)) {
                return BAD;
            }
            return overs[l] ? 1 : 0;
        }

        private void blank(int l) {
            for (int p = 0; p < places[l]; p++) {
                bytes[l * PLACES + p] = 0;
            }
        }

        void blankPlugged() {
            for (int l = 0; l < LINES; l++) {
                if (plugged[l]) {
                    blank(l);
                }
            }
        }

        /** THE DIGEST that was so far, with all bytes of now. */
        int addTo(int sum) {
            int all = sum;
            for (int l = 0; l < LINES; l++) {
                for (int p = 0; plugged[l] && p < places[l]; p++) {
                    all = 31 * all + bytes[l * PLACES + p];
                }
            }
            return all;
        }
    }

    /** FIXTURES, GROUPS of them, and what they answer when asked. */
    private static final class Rig {
        // The longest one: a GROUP of six of six of six STROBES leaves 1 + 6 + 36 + 2 * 216 numbers.
        private static final int LONGEST_TRACE = 475, MOST_MEMBERS = 216;

        final Findings findings;
        int count;
        int groups;
        final int[] kinds = new int[FIXTURES];
        // Of a GROUP: its FORM.
        final int[] numbers = new int[FIXTURES];
        final int[] seatCounts = new int[FIXTURES];
        final int[] seats = new int[FIXTURES * SEATS];
        // Kept, since TICKS want them of every CHANNEL and must leave THE TRACE as it is.
        final int[] heats = new int[FIXTURES];
        final int[] mosts = new int[FIXTURES];
        final int[] members = new int[MOST_MEMBERS];
        private int memberCount;
        private final int[] marks = new int[LONGEST_TRACE];
        private int markCount;
        private boolean isAsked;

        Rig(Findings findings) {
            this.findings = findings;
        }

        void clear() {
            count = 0;
            groups = 0;
            memberCount = 0;
            markCount = 0;
            isAsked = false;
        }

        boolean has(int f) {
            return f >= 0 && f < count;
        }

        boolean shows(int f) {
            return kinds[f] != GROUP;
        }

        boolean moves(int f) {
            return kinds[f] == MOVER || kinds[f] == SCREEN;
        }

        int add(int kind, int n) {
            if (kind < DIMMER || kind > SCREEN || n < 0 || n > MOST_NUMBER) {
                return BAD;
            }
            if (count >= FIXTURES) {
                return FULL;
            }
            int f = count;
            kinds[f] = kind;
            numbers[f] = n;
            seatCounts[f] = 0;
            count++;
            heats[f] = heatOf(f);
            mosts[f] = mostOf(f);
            return f;
        }

        int addGroup(int form, int k) {
            if (form < FOR_ALL || form > FOR_MOVERS || k > SEATS) {
                return BAD;
            }
            if (count >= FIXTURES || groups >= GROUPS) {
                return FULL;
            }
            if (k < 0) {
                return findings.note(FEWER);
            }
            int g = count;
            kinds[g] = GROUP;
            numbers[g] = form;
            seatCounts[g] = k;
            for (int i = 0; i < SEATS; i++) {
                seats[g * SEATS + i] = NONE;
            }
            count++;
            groups++;
            return g;
        }

        int seat(int g, int i, int f) {
            if (!has(g) || f != NONE && !has(f) || f >= g) {
                return BAD;
            }
            if (kinds[g] != GROUP) {
                return findings.note(SORT);
            }
            if (i < 0 || i >= seatCounts[g]) {
                return findings.note(BEYOND);
            }
            if (f != NONE && !fits(numbers[g], f)) {
                return findings.note(STORE);
            }
            seats[g * SEATS + i] = f;
            return 1;
        }

        private boolean fits(int form, int f) {
            if (form == FOR_DIMMERS) {
                return kinds[f] == DIMMER || kinds[f] == STROBE;
            }
            return form == FOR_ALL || moves(f);
        }

        int memberOf(int g, int k) {
            if (!has(g)) {
                return BAD;
            }
            if (kinds[g] != GROUP) {
                return findings.note(SORT);
            }
            int all = collect(g);
            return k >= 0 && k < all ? members[k] : NONE;
        }

        /** Leaves in members the FIXTURE itself, or all MEMBERS of a GROUP; answers how many. */
        int collect(int f) {
            memberCount = 0;
            gather(f, 0);
            return memberCount;
        }

        private void gather(int f, int depth) {
            if (kinds[f] != GROUP) {
                if (memberCount < MOST_MEMBERS) {
                    members[memberCount] = f;
                    memberCount++;
                }
                return;
            }
            if (depth >= GROUPS) {
                return;
            }
            for (int i = 0; i < seatCounts[f]; i++) {
                int seated = seats[f * SEATS + i];
                if (seated != NONE) {
                    gather(seated, depth + 1);
                }
            }
        }

        // ASKS. Each BODY leaves its number as it begins.

        int answer(int f, int ask) {
            if (!has(f) || ask < SPAN || ask > MOST) {
                return BAD;
            }
            markCount = 0;
            if (ask == REACH && !moves(f) || ask != SPAN && !shows(f)) {
                return findings.note(SORT);
            }
            isAsked = true;
            int given = answerOf(f, ask);
            isAsked = false;
            return given;
        }

        private int answerOf(int f, int ask) {
            switch (ask) {
                case SPAN: return spanOf(f, 0);
                case HEAT: return heatOf(f);
                case REACH: return reachOf(f);
                default: return mostOf(f);
            }
        }

        int traceAt(int i) {
            return i >= 0 && i < markCount ? marks[i] : NONE;
        }

        private void mark(int body) {
            if (isAsked && markCount < LONGEST_TRACE) {
                marks[markCount] = body;
                markCount++;
            }
        }

        private int spanOf(int f, int depth) {
            if (kinds[f] != GROUP) {
                return spanOfOne(f);
            }
            if (depth >= GROUPS) {
                return 0;
            }
            mark(5);
            int all = 0;
            for (int i = 0; i < seatCounts[f]; i++) {
                int seated = seats[f * SEATS + i];
                if (seated != NONE) {
                    all += spanOf(seated, depth + 1);
                }
            }
            return all;
        }

        private int spanOfOne(int f) {
            switch (kinds[f]) {
                case MOVER:
                    mark(3);
                    return 5;
                case SCREEN:
                    mark(4);
                    return 3;
                case STROBE:
                    mark(2);
                    mark(1);
                    return 1 + 1;
                default:
                    mark(1);
                    return 1;
            }
        }

        private int heatOf(int f) {
            int kind = kinds[f];
            if (kind == STROBE) {
                mark(11);
            } else if (kind == MOVER) {
                mark(12);
            }
            mark(10);
            int lent = 20 * spanOfOne(f);
            if (kind == STROBE) {
                return lent / 2;
            }
            return kind == MOVER ? lent + numbers[f] : lent;
        }

        private int reachOf(int f) {
            if (kinds[f] == SCREEN) {
                mark(21);
            }
            mark(20);
            int lent = 360;
            if (kinds[f] != SCREEN) {
                return lent;
            }
            int n = numbers[f];
            return n == 0 ? findings.note(NOUGHT) : lent / n;
        }

        private int mostOf(int f) {
            if (!moves(f)) {
                mark(30);
                return 255;
            }
            mark(kinds[f] == MOVER ? 32 : 33);
            mark(30);
            mark(31);
            return Math.min(255, 300 - numbers[f]);
        }

        // CHANNELS.

        static boolean isChannel(int c) {
            return c >= 0 && c < CHANNELS;
        }

        int channelsOf(int f) {
            switch (kinds[f]) {
                case DIMMER: return 1;
                case STROBE: return 2;
                case MOVER: return 3;
                case SCREEN: return 3;
                default: return 0;
            }
        }

        boolean isWide(int f, int c) {
            return kinds[f] == MOVER && c < 2;
        }

        boolean isDimming(int f, int c) {
            return kinds[f] == SCREEN || c == (kinds[f] == MOVER ? 2 : 0);
        }

        /** How far behind its FIXTURE's place the first byte of a CHANNEL lies. */
        int startOf(int f, int c) {
            return kinds[f] == MOVER ? 2 * c : c;
        }

        /** The same of its last byte. */
        int endOf(int f, int c) {
            return kinds[f] == MOVER ? Math.min(2 * c + 1, 4) : c;
        }
    }

    /** Where FIXTURES lie, in the order in which they came there. */
    private static final class Patching {
        final Findings findings;
        final Rig rig;
        final int[] lineOf = new int[FIXTURES];
        final int[] placeOf = new int[FIXTURES];
        final boolean[] firms = new boolean[FIXTURES];
        final int[] order = new int[FIXTURES];
        int count;

        Patching(Findings findings, Rig rig) {
            this.findings = findings;
            this.rig = rig;
        }

        void clear() {
            Arrays.fill(lineOf, NONE);
            Arrays.fill(placeOf, NONE);
            for (int f = 0; f < FIXTURES; f++) {
                firms[f] = false;
            }
            count = 0;
        }

        int put(int f, int l, int p) {
            if (!rig.has(f) || !Lines.isLine(l) || p < 0 || p >= PLACES) {
                return BAD;
            }
            if (!rig.shows(f)) {
                return findings.note(SORT);
            }
            drop(f);
            lineOf[f] = l;
            placeOf[f] = p;
            order[count] = f;
            count++;
            return 1;
        }

        int takeOff(int f) {
            if (!rig.has(f)) {
                return BAD;
            }
            if (lineOf[f] == NONE) {
                return NO;
            }
            drop(f);
            return 1;
        }

        private void drop(int f) {
            int kept = 0;
            for (int i = 0; i < count; i++) {
                if (order[i] != f) {
                    order[kept] = order[i];
                    kept++;
                }
            }
            count = kept;
            lineOf[f] = NONE;
            placeOf[f] = NONE;
        }

        int makeFirm(int f, boolean on) {
            if (!rig.has(f)) {
                return BAD;
            }
            firms[f] = on;
            return 1;
        }
    }

    /** CURVES of floats. Their bits are read and made here by hand: the rules leave no library for it. */
    private static final class Curves {
        private static final int SIGN = 0x80000000, ENDLESS = 0x7F800000, HOLE = 0x7FC00000;
        private static final int FRACTION = 0x7FFFFF, HIDDEN = 0x800000;

        private final int[] counts = new int[CURVES];
        private final int[] xs = new int[CURVES * POINTS];
        private final int[] bits = new int[CURVES * POINTS];
        private final boolean[] holes = new boolean[CURVES * POINTS];
        // 0 at a hole: no act on floats may ever answer what is no number.
        private final float[] ys = new float[CURVES * POINTS];
        // The POINTS whose y is wanted at the latest v: twice the same one, but between two.
        private int left;
        private int right;

        Curves() {
        }

        void clear() {
            Arrays.fill(counts, 0);
        }

        static boolean isCurve(int curve) {
            return curve >= 0 && curve < CURVES;
        }

        int add(int curve, int x, int y) {
            if (!isCurve(curve) || x < 0 || x > BYTE || (y & ~SIGN) == ENDLESS) {
                return BAD;
            }
            int end = curve * POINTS + counts[curve];
            if (counts[curve] > 0 && x <= xs[end - 1]) {
                return BAD;
            }
            if (counts[curve] >= POINTS) {
                return FULL;
            }
            xs[end] = x;
            bits[end] = y;
            holes[end] = (y & ~SIGN) > ENDLESS;
            ys[end] = holes[end] ? 0.0f : floatOf(y);
            counts[curve]++;
            return counts[curve];
        }

        int bitsAt(int curve, int v) {
            if (!isCurve(curve) || v < 0 || v > BYTE) {
                return 0;
            }
            if (counts[curve] == 0) {
                return bitsOf((float) v);
            }
            seek(curve, v);
            if (isHole()) {
                return HOLE;
            }
            if (left == right) {
                return bits[left];
            }
            float height = height(v);
            return height == 0.0f && fadesBelowZero() ? SIGN : bitsOf(height);
        }

        /** What a CHANNEL becomes by a CURVE; held is what it was when it was BENT last. */
        int bentAt(int curve, int v, int held) {
            if (counts[curve] == 0) {
                return v;
            }
            seek(curve, v);
            if (isHole()) {
                return held;
            }
            float moved = height(v) + 0.5f;
            if (moved >= 255.0f) {
                return BYTE;
            }
            return moved <= 0.0f ? 0 : (int) moved;
        }

        private void seek(int curve, int v) {
            int first = curve * POINTS;
            int last = first + counts[curve] - 1;
            left = first;
            for (int i = first; i <= last; i++) {
                if (xs[i] <= v) {
                    left = i;
                }
            }
            right = xs[left] < v && left < last ? left + 1 : left;
        }

        private boolean isHole() {
            return holes[left] || holes[right];
        }

        private float height(int v) {
            int wide = xs[right] - xs[left];
            if (wide <= 0) {
                return ys[left];
            }
            float part = (float) (v - xs[left]) / (float) wide;
            return ys[left] + (ys[right] - ys[left]) * part;
        }

        /** A sum of floats that is 0 is the 0 below 0 only where both its parts are. */
        private boolean fadesBelowZero() {
            return bits[left] == SIGN && ys[right] < 0.0f;
        }

        private static float floatOf(int y) {
            int power = (y & ~SIGN) >>> 23;
            int whole = y & FRACTION;
            if (power == 0) {
                power = 1;
            } else {
                whole |= HIDDEN;
            }
            float size = (float) whole;
            for (int k = power; k < 150; k++) {
                size *= 0.5f;
            }
            for (int k = power; k > 150; k--) {
                size *= 2.0f;
            }
            return (y & SIGN) == 0 ? size : -size;
        }

        private static int bitsOf(float y) {
            int sign = y < 0.0f ? SIGN : 0;
            float size = y < 0.0f ? -y : y;
            if (size > 3.4028235E38f) {
                return sign | ENDLESS;
            }
            int power = 150;
            while (power < 254 && size >= 16777216.0f) {
                size *= 0.5f;
                power++;
            }
            while (power > 1 && size < 8388608.0f) {
                size *= 2.0f;
                power--;
            }
            int whole = (int) size;
            if (whole < HIDDEN) {
                return sign | whole;
            }
            return sign | (power << 23) | (whole & FRACTION);
        }
    }

    /** CUES with their ENTRIES, and LISTS of CUES. */
    private static final class Cues {
        private final Rig rig;
        final int[] entryCounts = new int[CUES];
        final int[] fixtures = new int[CUES * ENTRIES];
        final int[] channels = new int[CUES * ENTRIES];
        final int[] values = new int[CUES * ENTRIES];
        final int[] lengths = new int[CUES * ENTRIES];
        private final int[] stepCounts = new int[LISTS];
        private final int[] steps = new int[LISTS * STEPS];
        private final int[] follows = new int[LISTS * STEPS];

        Cues(Rig rig) {
            this.rig = rig;
        }

        void clear() {
            Arrays.fill(entryCounts, 0);
            Arrays.fill(stepCounts, 0);
        }

        static boolean isList(int list) {
            return list >= 0 && list < LISTS;
        }

        private static boolean isCue(int cue) {
            return cue >= 0 && cue < CUES;
        }

        int addEntry(int cue, int f, int c, int value, int ticks) {
            if (!isCue(cue) || !rig.has(f) || !Rig.isChannel(c)) {
                return BAD;
            }
            if (value < 0 || value > WORD || ticks < 0 || ticks > MOST_FADE) {
                return BAD;
            }
            if (entryCounts[cue] >= ENTRIES) {
                return FULL;
            }
            int end = cue * ENTRIES + entryCounts[cue];
            fixtures[end] = f;
            channels[end] = c;
            values[end] = value;
            lengths[end] = ticks;
            entryCounts[cue]++;
            return entryCounts[cue];
        }

        int addStep(int list, int cue, int follow) {
            if (!isList(list) || !isCue(cue) || follow < 0 || follow > MOST_FOLLOW) {
                return BAD;
            }
            if (stepCounts[list] >= STEPS) {
                return FULL;
            }
            int end = list * STEPS + stepCounts[list];
            steps[end] = cue;
            follows[end] = follow;
            stepCounts[list]++;
            return stepCounts[list];
        }

        /** Whether a LIST has a CUE at the place; no LIST has none. */
        boolean hasStep(int list, int place) {
            return list >= 0 && list < LISTS && place >= 0 && place < stepCounts[list];
        }

        int cueAt(int list, int place) {
            return hasStep(list, place) ? steps[list * STEPS + place] : NONE;
        }

        int followAt(int list, int place) {
            return hasStep(list, place) ? follows[list * STEPS + place] : 0;
        }
    }

    /** A PLAYBACK: where it is in its LIST, and the CHANNELS that it has. */
    private static final class Playback {
        int list;
        int place;
        int share;
        int entries;
        int leavings;
        int channelCount;
        int fadeCount;
        private int since;
        private boolean mayFollow;
        final int[] values = new int[ALL_CHANNELS];
        // When the latest FADE of a CHANNEL began, of all FADES ever; 0 where it has no such CHANNEL.
        final int[] began = new int[ALL_CHANNELS];
        private final int[] from = new int[ALL_CHANNELS];
        private final int[] to = new int[ALL_CHANNELS];
        // 0 where no FADE goes.
        private final int[] lengths = new int[ALL_CHANNELS];
        private final int[] gone = new int[ALL_CHANNELS];

        Playback() {
        }

        void clear() {
            takeList(NONE);
            dropChannels();
            share = WHOLE;
            entries = 0;
            leavings = 0;
        }

        void takeList(int taken) {
            list = taken;
            rewind();
        }

        void rewind() {
            place = NONE;
            since = 0;
            mayFollow = false;
        }

        void dropChannels() {
            Arrays.fill(values, 0);
            Arrays.fill(began, 0);
            Arrays.fill(lengths, 0);
            channelCount = 0;
            fadeCount = 0;
        }

        void moveOn() {
            place++;
            since = 0;
            mayFollow = true;
        }

        void halt() {
            Arrays.fill(lengths, 0);
            fadeCount = 0;
            mayFollow = false;
        }

        void startFade(int channel, int target, int ticks, int number) {
            if (began[channel] == 0) {
                channelCount++;
            }
            began[channel] = number;
            if (lengths[channel] > 0) {
                fadeCount--;
            }
            lengths[channel] = ticks;
            if (ticks == 0) {
                values[channel] = target;
                return;
            }
            from[channel] = values[channel];
            to[channel] = target;
            gone[channel] = 0;
            fadeCount++;
        }

        void stepFades() {
            if (fadeCount == 0) {
                return;
            }
            for (int i = 0; i < ALL_CHANNELS; i++) {
                int length = lengths[i];
                if (length > 0) {
                    gone[i]++;
                    int twice = 2 * (to[i] - from[i]) * gone[i];
                    values[i] = from[i] + Math.floorDiv(twice + length, 2 * length);
                    if (gone[i] >= length) {
                        lengths[i] = 0;
                        fadeCount--;
                    }
                }
            }
        }

        /** Counts the TICK; a FOLLOW is met in one TICK only, so what had no next one then never FOLLOWS. */
        boolean isFollowDue(int follow) {
            since++;
            return mayFollow && follow > 0 && since == follow;
        }
    }

    /** What goes from the PLAYBACKS to the LINES. */
    private static final class Mixer {
        final Findings findings;
        final Lines lines;
        final Rig rig;
        final Patching patching;
        final Curves curves;
        final Playback[] playbacks;
        final int[] curveOf = new int[ALL_CHANNELS];
        final int[] bents = new int[ALL_CHANNELS];
        final boolean[] byLatest = new boolean[ALL_CHANNELS];
        final int[] levels = new int[ALL_CHANNELS];
        // Of this TICK: whether all bytes of a CHANNEL lie on its LINE.
        final boolean[] wholes = new boolean[ALL_CHANNELS];
        int grand;
        boolean dark;

        Mixer(Lines lines, Patching patching, Curves curves, Playback[] playbacks) {
            this.findings = lines.findings;
            this.lines = lines;
            this.rig = patching.rig;
            this.patching = patching;
            this.curves = curves;
            this.playbacks = playbacks;
        }

        void clear() {
            Arrays.fill(curveOf, NONE);
            Arrays.fill(bents, 0);
            Arrays.fill(levels, 0);
            for (int i = 0; i < ALL_CHANNELS; i++) {
                byLatest[i] = false;
                wholes[i] = false;
            }
            grand = WHOLE;
            dark = false;
        }

        int setCurve(int f, int c, int curve) {
            if (!rig.has(f) || !Rig.isChannel(c) || curve != NONE && !Curves.isCurve(curve)) {
                return BAD;
            }
            if (c >= rig.channelsOf(f) || rig.isWide(f, c)) {
                return findings.note(SORT);
            }
            curveOf[f * CHANNELS + c] = curve;
            return 1;
        }

        int setMerge(int f, int c, boolean latest) {
            if (!rig.has(f) || !Rig.isChannel(c)) {
                return BAD;
            }
            if (c >= rig.channelsOf(f)) {
                return findings.note(SORT);
            }
            byLatest[f * CHANNELS + c] = latest;
            return 1;
        }

        int setDark(boolean on) {
            int before = dark ? 1 : 0;
            dark = on;
            return before;
        }

        void reckonLevels() {
            for (int i = 0; i < patching.count; i++) {
                int f = patching.order[i];
                for (int c = 0; c < rig.channelsOf(f); c++) {
                    int channel = f * CHANNELS + c;
                    boolean dims = rig.isDimming(f, c);
                    int level = merged(channel, dims);
                    if (dims) {
                        level = level * grand / WHOLE;
                    }
                    if (curveOf[channel] != NONE) {
                        level = curves.bentAt(curveOf[channel], level, bents[channel]);
                        bents[channel] = level;
                    }
                    levels[channel] = dims ? Math.min(level, rig.mosts[f]) : level;
                    wholes[channel] = isWhole(f, c);
                }
            }
        }

        private boolean isWhole(int f, int c) {
            int last = patching.placeOf[f] + rig.endOf(f, c);
            return last < lines.places[patching.lineOf[f]];
        }

        private int merged(int channel, boolean dims) {
            int greatest = 0;
            int latest = 0;
            int latestBegan = 0;
            for (int p = 0; p < PLAYBACKS; p++) {
                Playback playback = playbacks[p];
                int began = playback.began[channel];
                if (began == 0) {
                    continue;
                }
                int value = playback.values[channel];
                if (dims) {
                    value = value * playback.share / WHOLE;
                }
                greatest = Math.max(greatest, value);
                if (began > latestBegan) {
                    latestBegan = began;
                    latest = value;
                }
            }
            return byLatest[channel] ? latest : greatest;
        }

        void coolLines() {
            for (int l = 0; l < LINES; l++) {
                int heat = heatOn(l);
                if (heat > lines.limits[l]) {
                    heat = cut(l, heat);
                }
                lines.heats[l] = heat;
                lines.overs[l] = heat > lines.limits[l];
            }
        }

        private int heatOn(int l) {
            int all = 0;
            for (int i = 0; i < patching.count; i++) {
                int f = patching.order[i];
                if (patching.lineOf[f] != l) {
                    continue;
                }
                for (int c = 0; c < rig.channelsOf(f); c++) {
                    if (rig.isDimming(f, c) && wholes[f * CHANNELS + c]) {
                        all += rig.heats[f] * levels[f * CHANNELS + c] / BYTE;
                    }
                }
            }
            return all;
        }

        /** The latest PATCHED first, and what is FIRM not at all; answers the HEAT that is left. */
        private int cut(int l, int heat) {
            int all = heat;
            for (int i = patching.count - 1; i >= 0; i--) {
                int f = patching.order[i];
                if (patching.lineOf[f] != l || patching.firms[f]) {
                    continue;
                }
                for (int c = rig.channelsOf(f) - 1; c >= 0 && all > lines.limits[l]; c--) {
                    if (rig.isDimming(f, c) && wholes[f * CHANNELS + c]) {
                        all = cutChannel(f, c, lines.limits[l], all);
                    }
                }
            }
            return all;
        }

        private int cutChannel(int f, int c, int limit, int heat) {
            int channel = f * CHANNELS + c;
            int hot = rig.heats[f];
            int level = levels[channel];
            int others = heat - hot * level / BYTE;
            while (level > 0 && others + hot * level / BYTE > limit) {
                level--;
            }
            levels[channel] = level;
            return others + hot * level / BYTE;
        }

        void write() {
            lines.blankPlugged();
            for (int i = 0; i < patching.count; i++) {
                int f = patching.order[i];
                for (int c = 0; c < rig.channelsOf(f); c++) {
                    writeChannel(f, c);
                }
            }
        }

        private void writeChannel(int f, int c) {
            int l = patching.lineOf[f];
            if (!lines.plugged[l]) {
                findings.note(NOTHING);
                return;
            }
            if (!wholes[f * CHANNELS + c]) {
                findings.note(BEYOND);
                return;
            }
            int first = l * PLACES + patching.placeOf[f] + rig.startOf(f, c);
            int level = dark && rig.isDimming(f, c) ? 0 : levels[f * CHANNELS + c];
            if (rig.isWide(f, c)) {
                lines.bytes[first] = level / 256;
                lines.bytes[first + 1] = level % 256;
            } else {
                lines.bytes[first] = level;
            }
        }
    }

    /** All that THE BOOK can bring about anew: one is live, one is for what is PLAYED AGAIN. */
    private static final class Board {
        final Findings findings = new Findings();
        final Lines lines = new Lines(findings);
        final Rig rig = new Rig(findings);
        final Patching patching = new Patching(findings, rig);
        final Curves curves = new Curves();
        final Cues cues = new Cues(rig);
        final Playback[] playbacks = new Playback[PLAYBACKS];
        final Mixer mixer = new Mixer(lines, patching, curves, playbacks);
        int ticks;
        int sum;
        private int fadesEver;

        Board() {
            for (int p = 0; p < PLAYBACKS; p++) {
                playbacks[p] = new Playback();
            }
            clear();
        }

        void clear() {
            findings.clear();
            lines.clear();
            rig.clear();
            patching.clear();
            curves.clear();
            cues.clear();
            mixer.clear();
            for (int p = 0; p < PLAYBACKS; p++) {
                playbacks[p].clear();
            }
            ticks = 0;
            sum = 0;
            fadesEver = 0;
        }

        int perform(int act, int a, int b, int c, int d, int e) {
            switch (act) {
                case DO_LINE: return lines.tell(a, b);
                case DO_PULL: return lines.pullOut(a);
                case DO_PLUG: return lines.plugIn(a);
                case DO_FIXTURE: return rig.add(a, b);
                case DO_GROUP: return rig.addGroup(a, b);
                case DO_MEMBER: return rig.seat(a, b, c);
                case DO_PATCH: return patching.put(a, b, c);
                case DO_UNPATCH: return patching.takeOff(a);
                case DO_FIRM: return patching.makeFirm(a, b != 0);
                case DO_POINT: return curves.add(a, b, c);
                case DO_BEND: return mixer.setCurve(a, b, c);
                case DO_ENTRY: return cues.addEntry(a, b, c, d, e);
                case DO_LIST: return cues.addStep(a, b, c);
                case DO_LOAD: return loadList(a, b);
                case DO_GO: return goOn(a);
                case DO_STOP: return stopFades(a);
                case DO_RELEASE: return letGo(a);
                case DO_MASTER: return setMaster(a, b);
                case DO_MERGE: return mixer.setMerge(a, b, c != 0);
                case DO_LIMIT: return lines.setLimit(a, b);
                case DO_BLACKOUT: return mixer.setDark(a != 0);
                case DO_TICK: return runTicks(a);
                default: return BAD;
            }
        }

        private static boolean isPlayback(int p) {
            return p >= 0 && p < PLAYBACKS;
        }

        int tellOfFixture(int f, int what) {
            if (!rig.has(f)) {
                return BAD;
            }
            switch (what) {
                case 0: return rig.kinds[f];
                case 1: return rig.numbers[f];
                case 2: return patching.lineOf[f];
                case 3: return patching.placeOf[f];
                case 4: return patching.firms[f] ? 1 : 0;
                default: return BAD;
            }
        }

        int tellOfPlayback(int p, int what) {
            if (!isPlayback(p)) {
                return BAD;
            }
            switch (what) {
                case 0: return playbacks[p].list;
                case 1: return playbacks[p].place;
                case 2: return playbacks[p].share;
                case 3: return playbacks[p].fadeCount;
                case 4: return playbacks[p].entries;
                case 5: return playbacks[p].leavings;
                case 6: return playbacks[p].channelCount;
                default: return BAD;
            }
        }

        int valueIn(int p, int f, int c) {
            if (!isPlayback(p) || !rig.has(f) || !Rig.isChannel(c)) {
                return BAD;
            }
            if (c >= rig.channelsOf(f)) {
                return findings.note(SORT);
            }
            int channel = f * CHANNELS + c;
            return playbacks[p].began[channel] == 0 ? NONE : playbacks[p].values[channel];
        }

        private int loadList(int p, int list) {
            if (!isPlayback(p) || list != NONE && !Cues.isList(list)) {
                return BAD;
            }
            playbacks[p].takeList(list);
            return 1;
        }

        private int goOn(int p) {
            if (!isPlayback(p)) {
                return BAD;
            }
            Playback playback = playbacks[p];
            if (!cues.hasStep(playback.list, playback.place + 1)) {
                return NO;
            }
            playback.entries++;
            startNext(playback);
            playback.leavings++;
            return cues.cueAt(playback.list, playback.place);
        }

        private int stopFades(int p) {
            if (!isPlayback(p)) {
                return BAD;
            }
            int went = playbacks[p].fadeCount;
            playbacks[p].halt();
            return went;
        }

        private int letGo(int p) {
            if (!isPlayback(p)) {
                return BAD;
            }
            int had = playbacks[p].channelCount;
            playbacks[p].dropChannels();
            playbacks[p].rewind();
            return had;
        }

        private int setMaster(int p, int m) {
            if (p != NONE && !isPlayback(p) || m < 0 || m > WHOLE) {
                return BAD;
            }
            int before;
            if (p == NONE) {
                before = mixer.grand;
                mixer.grand = m;
            } else {
                before = playbacks[p].share;
                playbacks[p].share = m;
            }
            return before;
        }

        private int runTicks(int n) {
            if (n < 1 || n > TICKS_A_CALL) {
                return BAD;
            }
            if (ticks + n > MOST_TICKS) {
                return FULL;
            }
            for (int i = 0; i < n; i++) {
                ticks++;
                for (int p = 0; p < PLAYBACKS; p++) {
                    playbacks[p].entries++;
                }
                for (int p = 0; p < PLAYBACKS; p++) {
                    playbacks[p].stepFades();
                    if (isFollowedNow(playbacks[p])) {
                        startNext(playbacks[p]);
                    }
                }
                mixer.reckonLevels();
                mixer.coolLines();
                mixer.write();
                sum = lines.addTo(sum);
                for (int p = PLAYBACKS - 1; p >= 0; p--) {
                    playbacks[p].leavings++;
                }
            }
            return ticks;
        }

        private boolean isFollowedNow(Playback playback) {
            int follow = cues.followAt(playback.list, playback.place);
            return playback.isFollowDue(follow) && cues.hasStep(playback.list, playback.place + 1);
        }

        private void startNext(Playback playback) {
            playback.moveOn();
            int cue = cues.cueAt(playback.list, playback.place);
            if (cue == NONE) {
                return;
            }
            for (int i = 0; i < cues.entryCounts[cue]; i++) {
                startEntry(playback, cue * ENTRIES + i);
            }
        }

        private void startEntry(Playback playback, int entry) {
            int c = cues.channels[entry];
            int all = rig.collect(cues.fixtures[entry]);
            for (int i = 0; i < all; i++) {
                int f = rig.members[i];
                if (c >= rig.channelsOf(f)) {
                    findings.note(SORT);
                    continue;
                }
                int most = rig.isWide(f, c) ? WORD : BYTE;
                int target = Math.min(cues.values[entry], most);
                fadesEver++;
                playback.startFade(f * CHANNELS + c, target, cues.lengths[entry], fadesEver);
            }
        }
    }
}

import java.util.ArrayList;
import java.util.List;

/**
 * What the tests of the document's edges share. Each of them begins with sentence(), which names
 * the promise and the sentence; what is asked behind it is told under that name.
 */
abstract class Edge {
    static final int NONE = CueBoard.NONE, BAD = CueBoard.BAD, NO = CueBoard.NO, FULL = CueBoard.FULL;
    static final int NOTHING = -11, BEYOND = -12, SORT = -13, NOUGHT = -14, FEWER = -15, STORE = -16;
    static final int DIMMER = 0, STROBE = 1, MOVER = 2, SCREEN = 3, GROUP = 4;
    static final int SPAN = 0, HEAT = 1, REACH = 2, MOST = 3;
    static final int LEAST = Integer.MIN_VALUE, GREATEST = Integer.MAX_VALUE;
    static final int HOLE = 0x7FC00000, ENDLESS = 0x7F800000, SIGN = 0x80000000;

    /** A call, or several of which the last one answers. */
    interface Call {
        int on(CueBoard x);
    }

    interface Maker {
        CueBoard make();
    }

    private record Watched(String name, Call call) {
    }

    /** An object is used for 512 calls: a board of at most 400 calls is looked at by so many at once. */
    private static final int AT_ONCE = 100;
    private static final List<Watched> STATE = new ArrayList<>();
    private static final List<Watched> LATER = new ArrayList<>();
    private static String named = "";

    static {
        watchState();
        watchLater();
    }

    static void sentence(String heading, String text) {
        Doc.quote(heading, text);
        named = heading + " \"" + text + "\": ";
    }

    static void due(String call, long got, long want) {
        Tally.due(named + call, got, want);
    }

    static int bits(float y) {
        return Float.floatToRawIntBits(y);
    }

    /** The bytes of a LINE from place 0 on. */
    static void row(CueBoard x, int l, int... due) {
        for (int p = 0; p < due.length; p++) {
            due("at(" + l + ", " + p + ")", x.at(l, p), due[p]);
        }
    }

    /** All numbers in THE TRACE, and that it ends there. */
    static void trace(CueBoard x, int... due) {
        for (int i = 0; i < due.length; i++) {
            due("trace(" + i + ")", x.trace(i), due[i]);
        }
        due("trace(" + due.length + ")", x.trace(due.length), NONE);
    }

    /**
     * The call answers so and changes nothing: a board on which it was called and one on which it
     * was not answer the same, now and later, but that FOUND has the FINDING.
     */
    static void refused(String call, int want, Maker maker, Call act) {
        int kind = want <= NOTHING && want >= STORE ? -10 - want : 0;
        compare(call, maker, maker, x -> {
            due(call, act.on(x), want);
            return 0;
        }, kind);
    }

    /** Both boards answer the same, now and later, and FOUND is the same. */
    static void same(String name, Maker one, Maker other) {
        compare(name, one, other, x -> 0, 0);
    }

    private static void compare(String call, Maker one, Maker other, Call act, int kind) {
        for (int from = 0; from < STATE.size(); from += AT_ONCE) {
            CueBoard x = one.make();
            CueBoard y = other.make();
            act.on(x);
            if (from == 0) {
                compareFound(call, x, y, kind);
            }
            for (Watched each : STATE.subList(from, Math.min(from + AT_ONCE, STATE.size()))) {
                due(each.name + " behind " + call, each.call.on(x), each.call.on(y));
            }
        }
        CueBoard x = one.make();
        CueBoard y = other.make();
        act.on(x);
        for (Watched each : LATER) {
            due("later " + each.name + " behind " + call, each.call.on(x), each.call.on(y));
        }
        int wentBack = x.back(1);
        due("later back(1) behind " + call, wentBack, y.back(1));
        // THE BOOK has no refused call: gone back, FOUND has no FINDING of it either.
        compareFound("back(1) behind " + call, x, y, wentBack >= 0 ? 0 : kind);
        for (int what = 0; what < 5; what++) {
            due("told(" + what + ") gone back behind " + call, x.told(what), y.told(what));
        }
        due("digest() gone back behind " + call, x.digest(), y.digest());
    }

    private static void compareFound(String call, CueBoard x, CueBoard y, int kind) {
        for (int finding = 1; finding <= 6; finding++) {
            due("found(" + finding + ") behind " + call, x.found(finding), y.found(finding) + (finding == kind ? 1 : 0));
        }
    }

    private static void watch(List<Watched> list, String name, Call call) {
        list.add(new Watched(name, call));
    }

    private static void watchState() {
        for (int i = -1; i < 8; i++) {
            int number = i;
            watch(STATE, "trace(" + i + ")", x -> x.trace(number));
        }
        for (int i = 0; i < 4; i++) {
            int l = i;
            for (int k = 0; k < 30; k++) {
                int p = k < 25 ? k : k + 35;
                watch(STATE, "at(" + l + ", " + p + ")", x -> x.at(l, p));
            }
            for (int k = 0; k < 7; k++) {
                int v = new int[] {0, 25, 50, 75, 100, 101, 255}[k];
                int what = k;
                watch(STATE, "curve(" + l + ", " + v + ")", x -> x.curve(l, v));
                watch(STATE, "playback(" + l + ", " + what + ")", x -> x.playback(l, what));
            }
            watch(STATE, "heat(" + l + ")", x -> x.heat(l));
            watch(STATE, "over(" + l + ")", x -> x.over(l));
        }
        for (int i = 0; i < 25; i++) {
            int f = i;
            for (int k = 0; k < 5; k++) {
                int what = k;
                watch(STATE, "about(" + f + ", " + what + ")", x -> x.about(f, what));
            }
            for (int k = 0; k < 12 && f < 8; k++) {
                int p = k / 3;
                int c = k % 3;
                watch(STATE, "value(" + p + ", " + f + ", " + c + ")", x -> x.value(p, f, c));
            }
            for (int k = 0; k < 8 && (f == 4 || f == 5 || f > 20); k++) {
                int number = k;
                watch(STATE, "memberAt(" + f + ", " + number + ")", x -> x.memberAt(f, number));
            }
        }
        watchTold(STATE);
    }

    private static void watchTold(List<Watched> list) {
        for (int i = 0; i < 5; i++) {
            int what = i;
            watch(list, "told(" + what + ")", x -> x.told(what));
        }
        watch(list, "digest()", x -> x.digest());
        watch(list, "replay()", x -> x.replay());
    }

    /** Calls that would answer otherwise if something that can't be asked for had changed. */
    private static void watchLater() {
        watch(LATER, "fixture(0, 1)", x -> x.fixture(DIMMER, 1));
        watch(LATER, "group(0, 1)", x -> x.group(0, 1));
        for (int i = 0; i < 16; i++) {
            int cue = i;
            watch(LATER, "entry(" + cue + ", 0, 0, 9, 1)", x -> x.entry(cue, 0, 0, 9, 1));
        }
        for (int i = 0; i < 4; i++) {
            int k = i;
            watch(LATER, "point(" + k + ", 255, 7f)", x -> x.point(k, 255, bits(7)));
            watch(LATER, "list(" + k + ", 15, 1)", x -> x.list(k, 15, 1));
            watch(LATER, "go(" + k + ")", x -> x.go(k));
        }
        watch(LATER, "tick(3)", x -> x.tick(3));
        watchTold(LATER);
        for (int i = -1; i < 4; i++) {
            int p = i;
            watch(LATER, "master(" + p + ", 90)", x -> x.master(p, 90));
        }
        for (int i = 0; i < 4; i++) {
            int l = i;
            watch(LATER, "heat(" + l + ")", x -> x.heat(l));
            watch(LATER, "over(" + l + ")", x -> x.over(l));
            watch(LATER, "limit(" + l + ", 1000000)", x -> x.limit(l, 1000000));
        }
        watch(LATER, "patch(0, 0, 1)", x -> x.patch(0, 0, 1));
        watch(LATER, "blackout(false)", x -> x.blackout(false));
        watch(LATER, "tick(2)", x -> x.tick(2));
        watchTold(LATER);
        for (int i = 0; i < 4; i++) {
            int p = i;
            watch(LATER, "stop(" + p + ")", x -> x.stop(p));
            watch(LATER, "release(" + p + ")", x -> x.release(p));
        }
        watch(LATER, "tick(1)", x -> x.tick(1));
        watchTold(LATER);
    }

    /**
     * A bit of all: LINE 2 is PULLED, LINE 3 was never told; 0 DIMMER, 1 STROBE (FIRM), 2 MOVER,
     * 3 SCREEN of 0, 4 GROUP for DIMMERS, 5 GROUP for all with 4 in it, 6 DIMMER; FADES go,
     * a FOLLOW is due in both PLAYBACKS 0 and 1. THE TRACE is empty.
     */
    static CueBoard rich() {
        CueBoard x = new CueBoard();
        x.line(0, 20);
        x.line(1, 4);
        x.line(2, 3);
        x.pull(2);
        x.fixture(DIMMER, 0);
        x.fixture(STROBE, 5);
        x.fixture(MOVER, 70);
        x.fixture(SCREEN, 0);
        x.group(1, 3);
        x.group(0, 4);
        x.fixture(DIMMER, 9);
        x.member(4, 0, 0);
        x.member(4, 2, 1);
        x.member(5, 0, 2);
        x.member(5, 1, 4);
        x.member(5, 3, 3);
        x.firm(1, true);
        x.point(0, 0, 0);
        x.point(0, 50, bits(100));
        x.point(0, 100, HOLE);
        x.bend(0, 0, 0);
        x.bend(1, 1, 1);
        x.merge(0, 0, true);
        x.limit(0, 150);
        x.master(1, 50);
        richCues(x);
        return x;
    }

    private static void richCues(CueBoard x) {
        x.patch(0, 0, 0);
        x.patch(1, 0, 1);
        x.patch(2, 0, 3);
        x.patch(3, 1, 2);
        x.patch(6, 2, 0);
        x.entry(0, 5, 0, 200, 4);
        x.entry(0, 1, 1, 30, 0);
        x.entry(0, 2, 1, 40000, 7);
        x.entry(0, 2, 2, 255, 2);
        x.entry(1, 0, 0, 60, 0);
        x.entry(1, 3, 2, 255, 9);
        x.entry(2, 6, 0, 90, 2);
        x.list(0, 0, 5);
        x.list(0, 1, 0);
        x.list(0, 2, 0);
        x.list(1, 2, 4);
        x.list(1, 1, 1);
        x.load(0, 0);
        x.load(1, 1);
        x.load(2, 3);
        x.go(0);
        x.tick(2);
        x.go(1);
        x.tick(1);
    }

    /** The same, with numbers in THE TRACE. */
    static CueBoard asked() {
        CueBoard x = rich();
        x.asks(1, HEAT);
        return x;
    }

    /** All places taken: 21 FIXTURES and 3 GROUPS, POINTS of CURVE 0, ENTRIES of CUE 0, CUES of LIST 0. */
    static CueBoard full() {
        CueBoard x = new CueBoard();
        for (int l = 0; l < 4; l++) {
            x.line(l, 64);
        }
        for (int f = 0; f < 21; f++) {
            x.fixture(f % 4, f);
        }
        for (int g = 21; g < 24; g++) {
            x.group(0, 6);
            x.member(g, 5, g - 1);
        }
        for (int i = 0; i < 8; i++) {
            x.point(0, 30 * i + 5, bits(i));
            x.list(0, i, 1);
        }
        for (int i = 0; i < 12; i++) {
            x.entry(0, i, 0, 20 * i, 3);
            x.patch(i, i % 4, 5 * i);
        }
        x.load(0, 0);
        x.go(0);
        x.tick(1);
        return x;
    }

    /** More calls that act than THE BOOK has. */
    static CueBoard beyondTheBook() {
        CueBoard x = rich();
        for (int calls = x.told(2); calls <= 120; calls++) {
            x.firm(0, false);
        }
        return x;
    }

    /** 1998 TICKS. */
    static CueBoard old() {
        CueBoard x = new CueBoard();
        x.line(0, 2);
        x.fixture(DIMMER, 0);
        x.patch(0, 0, 0);
        for (int i = 0; i < 399; i++) {
            x.tick(5);
        }
        x.tick(3);
        return x;
    }

    /** A FIXTURE of the kind at place 0 of LINE 0, which has so many places; no VALUE yet. */
    static CueBoard one(int kind, int n, int places) {
        CueBoard x = new CueBoard();
        x.line(0, places);
        x.fixture(kind, n);
        x.patch(0, 0, 0);
        x.load(0, 0);
        return x;
    }

    /** A CUE more, number so, with one ENTRY for PLAYBACK 0, and it begins. */
    static void send(CueBoard x, int cue, int f, int c, int value, int ticks) {
        x.entry(cue, f, c, value, ticks);
        x.list(0, cue, 0);
        x.go(0);
    }
}

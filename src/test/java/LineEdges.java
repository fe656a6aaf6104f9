/** The edges that the document names in its answers, ==== 1 and the promises 1 to 6. */
final class LineEdges extends Edge {
    private LineEdges() {
    }

    static void run() {
        badFirst();
        findingsLast();
        findings();
        refusedChangesNothing();
        foundCounts();
        terms();
        newObject();
        line();
        lineAnew();
        lineAlone();
        pull();
        plug();
        at();
        wide();
    }

    private static void badFirst() {
        sentence("Terms", "Answers: BAD (a number is not as told; no such thing), NO (as told), FULL, the first that fits");
        refused("unpatch(7): not there, so not patched", BAD, Edge::rich, x -> x.unpatch(7));
        refused("pull(4): no such, so never told", BAD, Edge::rich, x -> x.pull(4));
        refused("go(4): no such, so no list", BAD, Edge::rich, x -> x.go(4));
        refused("back(51) where none went", BAD, CueBoard::new, x -> x.back(51));
        refused("back(-1) of more than the book has", BAD, Edge::beyondTheBook, x -> x.back(-1));
        refused("fixture(0, 101) as a 25th", BAD, Edge::full, x -> x.fixture(DIMMER, 101));
        refused("group(3, 0) as a 25th", BAD, Edge::full, x -> x.group(3, 0));
        refused("point(0, 215, 1f) as a ninth", BAD, Edge::full, x -> x.point(0, 215, bits(1)));
        refused("entry(0, 24, 0, 0, 0) as a 13th", BAD, Edge::full, x -> x.entry(0, 24, 0, 0, 0));
        refused("list(0, 16, 0) as a ninth", BAD, Edge::full, x -> x.list(0, 16, 0));
        refused("tick(6) behind 1998", BAD, Edge::old, x -> x.tick(6));
    }

    private static void findingsLast() {
        sentence("Terms", "then a FINDING");
        refused("line(4, -1)", BAD, Edge::rich, x -> x.line(4, -1));
        refused("at(4, -1)", BAD, Edge::rich, x -> x.at(4, -1));
        refused("wide(-1, -1)", BAD, Edge::rich, x -> x.wide(-1, -1));
        refused("group(3, -1)", BAD, Edge::rich, x -> x.group(3, -1));
        refused("group(0, -1) as a fourth", FULL, Edge::full, x -> x.group(0, -1));
        refused("member(0, 9, 6): no group, behind it", BAD, Edge::rich, x -> x.member(0, 9, 6));
        refused("patch(5, 4, 0) of a group", BAD, Edge::rich, x -> x.patch(5, 4, 0));
        refused("patch(5, 0, 64) of a group", BAD, Edge::rich, x -> x.patch(5, 0, 64));
        refused("bend(0, 1, 4) of no channel", BAD, Edge::rich, x -> x.bend(0, 1, 4));
        refused("merge(5, 3, true) of a group", BAD, Edge::rich, x -> x.merge(5, 3, true));
        refused("value(4, 5, 0) of a group", BAD, Edge::rich, x -> x.value(4, 5, 0));
        refused("asks(5, 4) of a group", BAD, Edge::asked, x -> x.asks(5, 4));
    }

    private static void findings() {
        sentence("Terms", "1 NOTHING (a LINE that is PULLED or was never told)");
        refused("at(2, 0) of one that is pulled", -11, Edge::rich, x -> x.at(2, 0));
        refused("at(3, 0) of one never told", -11, Edge::rich, x -> x.at(3, 0));
        sentence("Terms", "2 BEYOND (an index)");
        refused("at(0, 20)", -12, Edge::rich, x -> x.at(0, 20));
        refused("at(0, -1)", -12, Edge::rich, x -> x.at(0, -1));
        sentence("Terms", "3 SORT (not that kind of FIXTURE)");
        refused("memberAt(0, 0)", -13, Edge::rich, x -> x.memberAt(0, 0));
        sentence("Terms", "4 NOUGHT (shared among none)");
        CueBoard x = rich();
        due("asks(3, 2) of a SCREEN of 0", x.asks(3, REACH), -14);
        due("found(4)", x.found(4), 1);
        sentence("Terms", "5 FEWER (fewer than none)");
        refused("line(0, -1)", -15, Edge::rich, y -> y.line(0, -1));
        sentence("Terms", "6 STORE (a GROUP is not for it): -10 less it");
        refused("member(4, 1, 2)", -16, Edge::rich, y -> y.member(4, 1, 2));
    }

    /** One of each call that can be refused or can find something, on a board with a bit of all. */
    private static void refusedChangesNothing() {
        sentence("Terms", "What is refused, or finds something, changes nothing (but as told)");
        refused("line(0, 65)", BAD, Edge::rich, x -> x.line(0, 65));
        refused("line(2, -1)", FEWER, Edge::rich, x -> x.line(2, -1));
        refused("pull(2)", NO, Edge::rich, x -> x.pull(2));
        refused("plug(0)", NO, Edge::rich, x -> x.plug(0));
        refused("fixture(4, 0)", BAD, Edge::rich, x -> x.fixture(4, 0));
        refused("group(0, -1)", FEWER, Edge::rich, x -> x.group(0, -1));
        refused("member(5, 4, 0)", BEYOND, Edge::rich, x -> x.member(5, 4, 0));
        refused("patch(4, 0, 0)", SORT, Edge::rich, x -> x.patch(4, 0, 0));
        refused("unpatch(4)", NO, Edge::rich, x -> x.unpatch(4));
        refused("firm(7, true)", BAD, Edge::rich, x -> x.firm(7, true));
        refused("point(0, 100, 0)", BAD, Edge::rich, x -> x.point(0, 100, 0));
        refused("bend(2, 0, 0)", SORT, Edge::rich, x -> x.bend(2, 0, 0));
        refused("entry(0, 0, 0, 0, 101)", BAD, Edge::rich, x -> x.entry(0, 0, 0, 0, 101));
        refused("list(0, 0, 51)", BAD, Edge::rich, x -> x.list(0, 0, 51));
        refused("load(0, 4)", BAD, Edge::rich, x -> x.load(0, 4));
        refused("go(2)", NO, Edge::rich, x -> x.go(2));
        refused("stop(4)", BAD, Edge::rich, x -> x.stop(4));
        refused("release(4)", BAD, Edge::rich, x -> x.release(4));
        refused("master(0, 101)", BAD, Edge::rich, x -> x.master(0, 101));
        refused("merge(0, 1, false)", SORT, Edge::rich, x -> x.merge(0, 1, false));
        refused("limit(0, 1000001)", BAD, Edge::rich, x -> x.limit(0, 1000001));
        refused("tick(0)", BAD, Edge::rich, x -> x.tick(0));
        refused("back(3)", NO, Edge::rich, x -> x.back(3));
        // As told: an ask that finds something leaves its own TRACE, and go() acts where it finds SORT.
        CueBoard x = asked();
        due("asks(0, 2)", x.asks(0, REACH), SORT);
        due("trace(0)", x.trace(0), NONE);
        due("go(1) to a cue without finding", x.go(1), 1);
    }

    private static void foundCounts() {
        sentence("Terms", "FOUND counts all FINDINGS by their kind, also those of TICKS and of go()");
        CueBoard x = one(SCREEN, 0, 2);
        due("none yet", x.found(1) + x.found(2) + x.found(3) + x.found(4) + x.found(5) + x.found(6), 0);
        x.at(1, 0);
        x.at(0, 2);
        x.memberAt(0, 0);
        x.asks(0, REACH);
        x.line(1, -1);
        x.group(1, 1);
        x.member(1, 0, 0);
        for (int finding = 1; finding <= 6; finding++) {
            due("found(" + finding + ")", x.found(finding), 1);
        }
        x.tick(3);
        due("found(2): BLUE is beyond in three ticks", x.found(2), 4);
        x.fixture(DIMMER, 0);
        x.entry(0, 2, 1, 9, 0);
        x.entry(0, 2, 2, 9, 0);
        x.list(0, 0, 1);
        x.list(0, 0, 0);
        x.go(0);
        due("found(3): go()", x.found(3), 3);
        x.pull(0);
        x.tick(1);
        due("found(1): three channels on a pulled line", x.found(1), 4);
        due("found(2): none more", x.found(2), 4);
        due("found(3): a cue that follows", x.found(3), 5);
    }

    private static void terms() {
        sentence("==== 1", "LINES 0 .. 3 are told with 0 to 64 places");
        for (int l = 0; l < 4; l++) {
            CueBoard x = new CueBoard();
            due("line(" + l + ", 0)", x.line(l, 0), 1);
            due("at(" + l + ", 0) of none", x.at(l, 0), BEYOND);
            due("line(" + l + ", 64)", x.line(l, 64), 1);
            due("at(" + l + ", 63)", x.at(l, 63), 0);
            due("at(" + l + ", 64)", x.at(l, 64), BEYOND);
        }
        sentence("==== 1", "each a byte (0 .. 255)");
        CueBoard x = one(MOVER, 0, 5);
        send(x, 0, 0, 0, 65535, 0);
        send(x, 1, 0, 1, 65280, 0);
        send(x, 2, 0, 2, 65535, 0);
        x.tick(1);
        row(x, 0, 255, 255, 255, 0, 255);
        sentence("==== 1", "and are PLUGGED then");
        x = new CueBoard();
        x.line(2, 0);
        due("plug(2) of one just told", x.plug(2), NO);
        due("pull(2)", x.pull(2), 1);
        x.line(2, 1);
        due("plug(2) of one told while it was pulled", x.plug(2), NO);
        due("at(2, 0)", x.at(2, 0), 0);
        keptPlaces();
    }

    private static void keptPlaces() {
        sentence("==== 1", "one that is PULLED keeps how many places it has");
        for (int n = 0; n <= 64; n += 32) {
            CueBoard x = new CueBoard();
            x.line(1, n);
            x.pull(1);
            x.tick(1);
            x.plug(1);
            due("at its last of " + n, x.at(1, n - 1), n == 0 ? BEYOND : 0);
            due("behind its last of " + n, x.at(1, n), BEYOND);
        }
        sentence("==== 1", "PLUGGED again all are 0 till the next TICK");
        CueBoard x = one(STROBE, 0, 64);
        x.patch(0, 0, 62);
        send(x, 0, 0, 0, 200, 0);
        send(x, 1, 0, 1, 100, 0);
        x.tick(1);
        due("at(0, 62)", x.at(0, 62), 200);
        x.pull(0);
        x.plug(0);
        due("at(0, 62) plugged again", x.at(0, 62), 0);
        due("at(0, 63) plugged again", x.at(0, 63), 0);
        x.tick(1);
        due("at(0, 62) behind a tick", x.at(0, 62), 200);
        due("at(0, 63) behind a tick", x.at(0, 63), 100);
    }

    private static void newObject() {
        sentence("Promise 1", "No LINES, FIXTURES, POINTS, ENTRIES");
        CueBoard x = new CueBoard();
        for (int l = 0; l < 4; l++) {
            due("at(" + l + ", 0)", x.at(l, 0), NOTHING);
            due("pull(" + l + ")", x.pull(l), NO);
            due("plug(" + l + ")", x.plug(l), NO);
            due("curve(" + l + ", 255)", x.curve(l, 255), bits(255));
            due("point(" + l + ", 0, 0)", x.point(l, 0, 0), 1);
            due("go(" + l + ")", x.go(l), NO);
            due("list(" + l + ", 0, 0)", x.list(l, 0, 0), 1);
        }
        due("told(0)", x.told(0), 0);
        due("about(0, 0)", x.about(0, 0), BAD);
        due("fixture(0, 0)", x.fixture(DIMMER, 0), 0);
        for (int cue = 0; cue < 16; cue++) {
            due("entry(" + cue + ", 0, 0, 0, 0)", x.entry(cue, 0, 0, 0, 0), 1);
        }
        sentence("Promise 1", "LIMITS of 1000000");
        for (int l = 0; l < 4; l++) {
            hottest(l);
        }
        sentence("Promise 1", "GRAND 100");
        due("told(4)", new CueBoard().told(4), 100);
        due("master(NONE, 0)", new CueBoard().master(NONE, 0), 100);
        sentence("Promise 1", "no BLACKOUT");
        due("told(3)", new CueBoard().told(3), 0);
        due("blackout(true)", new CueBoard().blackout(true), 0);
        sentence("Promise 1", "no TICK");
        due("told(1)", new CueBoard().told(1), 0);
        due("back(0)", new CueBoard().back(0), NO);
        due("tick(1)", new CueBoard().tick(1), 1);
    }

    /** 24 SCREENS: no LINE can be hotter, and nothing is cut. */
    private static void hottest(int l) {
        CueBoard x = new CueBoard();
        x.line(l, 3);
        for (int f = 0; f < 24; f++) {
            x.fixture(SCREEN, 0);
            x.patch(f, l, 0);
            for (int c = 0; c < 3; c++) {
                x.entry(f / 4, f, c, 255, 0);
            }
        }
        x.load(0, 0);
        for (int cue = 0; cue < 6; cue++) {
            x.list(0, cue, 0);
            x.go(0);
        }
        x.tick(1);
        due("heat(" + l + ")", x.heat(l), 24 * 3 * 60);
        due("over(" + l + ")", x.over(l), 0);
        row(x, l, 255, 255, 255);
    }

    private static void line() {
        sentence("Promise 2", "LINE l is told with n places, all 0, PLUGGED");
        for (int n = 0; n <= 64; n++) {
            CueBoard x = new CueBoard();
            due("line(3, " + n + ")", x.line(3, n), 1);
            for (int p = 0; p < n; p++) {
                due("at(3, " + p + ")", x.at(3, p), 0);
            }
            due("at(3, " + n + ")", x.at(3, n), BEYOND);
        }
        sentence("Promise 2", "BAD: l, n above 64");
        for (int l : new int[] {-1, 4, LEAST, GREATEST}) {
            refused("line(" + l + ", 1)", BAD, Edge::rich, x -> x.line(l, 1));
        }
        for (int n : new int[] {65, GREATEST}) {
            refused("line(0, " + n + ")", BAD, Edge::rich, x -> x.line(0, n));
            refused("line(2, " + n + ")", BAD, Edge::rich, x -> x.line(2, n));
            refused("line(3, " + n + ")", BAD, Edge::rich, x -> x.line(3, n));
        }
        sentence("Promise 2", "FEWER");
        for (int n : new int[] {-1, LEAST}) {
            refused("line(0, " + n + ")", FEWER, Edge::rich, x -> x.line(0, n));
            refused("line(2, " + n + ")", FEWER, Edge::rich, x -> x.line(2, n));
            refused("line(3, " + n + ")", FEWER, Edge::rich, x -> x.line(3, n));
        }
    }

    private static CueBoard hot() {
        CueBoard x = one(DIMMER, 0, 8);
        x.patch(0, 0, 7);
        send(x, 0, 0, 0, 255, 0);
        x.limit(0, 19);
        x.firm(0, true);
        x.tick(1);
        return x;
    }

    private static void lineAnew() {
        sentence("Promise 2", "(also anew; its LIMIT, what is PATCHED to it, heat(), over() stay): 1");
        CueBoard x = hot();
        due("line(0, 64)", x.line(0, 64), 1);
        due("at(0, 7) is 0", x.at(0, 7), 0);
        due("heat(0)", x.heat(0), 20);
        due("over(0)", x.over(0), 1);
        due("about(0, 2)", x.about(0, 2), 0);
        due("about(0, 3)", x.about(0, 3), 7);
        x.firm(0, false);
        x.tick(1);
        // 20 * 254 / 255 is 19: the LIMIT of 19 is still there.
        due("at(0, 7) behind a tick", x.at(0, 7), 254);
        x = hot();
        due("line(0, 7): the place is beyond now", x.line(0, 7), 1);
        due("heat(0)", x.heat(0), 20);
        due("over(0)", x.over(0), 1);
        due("about(0, 3)", x.about(0, 3), 7);
        x.tick(1);
        due("found(2)", x.found(2), 1);
        due("heat(0) behind a tick", x.heat(0), 0);
        x.pull(0);
        due("line(0, 8) of one that is pulled", x.line(0, 8), 1);
        due("at(0, 7)", x.at(0, 7), 0);
        x.tick(1);
        due("at(0, 7) behind a tick", x.at(0, 7), 255);
    }

    /** A full byte at the last place of each LINE: what one of them is told leaves the others as they are. */
    private static void lineAlone() {
        for (int told = 0; told < 4; told++) {
            CueBoard x = new CueBoard();
            x.load(0, 0);
            for (int l = 0; l < 4; l++) {
                x.line(l, 64);
                x.fixture(DIMMER, 0);
                x.patch(l, l, 63);
                send(x, l, l, 0, 250 + l, 0);
            }
            x.tick(1);
            for (int l = 0; l < 4; l++) {
                due("at(" + l + ", 63)", x.at(l, 63), 250 + l);
                due("wide(" + l + ", 62)", x.wide(l, 62), 250 + l);
            }
            x.line(told, 64);
            for (int l = 0; l < 4; l++) {
                due("at(" + l + ", 63) behind line(" + told + ", 64)", x.at(l, 63), l == told ? 0 : 250 + l);
            }
        }
    }

    private static void pull() {
        sentence("Promise 3", "A LINE is PULLED: 1");
        for (int l = 0; l < 4; l++) {
            CueBoard x = new CueBoard();
            x.line(l, l);
            due("pull(" + l + ")", x.pull(l), 1);
            due("at(" + l + ", 0)", x.at(l, 0), NOTHING);
        }
        sentence("Promise 3", "BAD");
        for (int l : new int[] {-1, 4, LEAST, GREATEST}) {
            refused("pull(" + l + ")", BAD, Edge::rich, x -> x.pull(l));
        }
        sentence("Promise 3", "NO: it is, or was never told");
        refused("pull(2) of one that is", NO, Edge::rich, x -> x.pull(2));
        refused("pull(3) of one never told", NO, Edge::rich, x -> x.pull(3));
        refused("pull(0) on a new board", NO, CueBoard::new, x -> x.pull(0));
    }

    private static void plug() {
        sentence("Promise 4", "A LINE is PLUGGED: 1");
        for (int l = 0; l < 4; l++) {
            CueBoard x = new CueBoard();
            x.line(l, l);
            x.pull(l);
            due("plug(" + l + ")", x.plug(l), 1);
            due("at(" + l + ", " + l + ")", x.at(l, l), BEYOND);
            due("pull(" + l + ")", x.pull(l), 1);
        }
        sentence("Promise 4", "BAD");
        for (int l : new int[] {-1, 4, LEAST, GREATEST}) {
            refused("plug(" + l + ")", BAD, Edge::rich, x -> x.plug(l));
        }
        sentence("Promise 4", "NO: it is, or was never told");
        refused("plug(0) of one that is: its bytes stay", NO, Edge::rich, x -> x.plug(0));
        refused("plug(3) of one never told", NO, Edge::rich, x -> x.plug(3));
        refused("plug(0) on a new board", NO, CueBoard::new, x -> x.plug(0));
    }

    private static void at() {
        sentence("Promise 5", "The byte at a place");
        CueBoard x = one(DIMMER, 0, 64);
        x.patch(0, 0, 63);
        send(x, 0, 0, 0, 255, 0);
        x.tick(1);
        due("at(0, 63)", x.at(0, 63), 255);
        due("at(0, 62)", x.at(0, 62), 0);
        x.patch(0, 0, 0);
        x.tick(1);
        due("at(0, 0)", x.at(0, 0), 255);
        due("at(0, 63)", x.at(0, 63), 0);
        sentence("Promise 5", "BAD: l");
        for (int l : new int[] {-1, 4, LEAST, GREATEST}) {
            refused("at(" + l + ", 0)", BAD, Edge::rich, y -> y.at(l, 0));
        }
        sentence("Promise 5", "NOTHING");
        for (int p : new int[] {-1, 0, 2, 3, 64, LEAST, GREATEST}) {
            refused("at(2, " + p + ") of one that is pulled", NOTHING, Edge::rich, y -> y.at(2, p));
            refused("at(3, " + p + ") of one never told", NOTHING, Edge::rich, y -> y.at(3, p));
        }
        sentence("Promise 5", "BEYOND");
        for (int p : new int[] {-1, 4, 63, 64, LEAST, GREATEST}) {
            refused("at(1, " + p + ")", BEYOND, Edge::rich, y -> y.at(1, p));
        }
        // LINE 0 ends where LINE 1 begins, however the bytes are held.
        refused("at(0, 64) of 64", BEYOND, Edge::full, y -> y.at(0, 64));
        refused("at(1, -1) of 64", BEYOND, Edge::full, y -> y.at(1, -1));
        refused("at(3, 64) of 64", BEYOND, Edge::full, y -> y.at(3, 64));
    }

    private static void wide() {
        sentence("Promise 6", "The two bytes from a place on as one number");
        CueBoard x = one(MOVER, 0, 64);
        x.patch(0, 0, 62);
        send(x, 0, 0, 0, 65535, 0);
        x.tick(1);
        due("wide(0, 62)", x.wide(0, 62), 65535);
        due("wide(0, 61)", x.wide(0, 61), 255);
        send(x, 1, 0, 0, 256, 0);
        x.patch(0, 0, 0);
        x.tick(1);
        due("wide(0, 0)", x.wide(0, 0), 256);
        due("wide(0, 1)", x.wide(0, 1), 0);
        for (int l = 0; l < 4; l++) {
            x.line(l, 2 + l);
            x.patch(0, l, l);
            x.tick(1);
            for (int k = 0; k <= l; k++) {
                due("wide(" + k + ", " + k + ")", x.wide(k, k), k == l ? 256 : 0);
            }
        }
        sentence("Promise 6", "BAD: l");
        for (int l : new int[] {-1, 4, LEAST, GREATEST}) {
            refused("wide(" + l + ", 0)", BAD, Edge::rich, y -> y.wide(l, 0));
        }
        sentence("Promise 6", "NOTHING");
        for (int p : new int[] {-1, 0, 2, 64, LEAST, GREATEST}) {
            refused("wide(2, " + p + ") of one that is pulled", NOTHING, Edge::rich, y -> y.wide(2, p));
            refused("wide(3, " + p + ") of one never told", NOTHING, Edge::rich, y -> y.wide(3, p));
        }
        sentence("Promise 6", "BEYOND: one of both");
        due("wide(1, 2) of 4", rich().wide(1, 2) >= 0 ? 1 : 0, 1);
        for (int p : new int[] {-2, -1, 3, 4, 63, LEAST, GREATEST}) {
            refused("wide(1, " + p + ") of 4", BEYOND, Edge::rich, y -> y.wide(1, p));
        }
        refused("wide(0, 63) of 64", BEYOND, Edge::full, y -> y.wide(0, 63));
        refused("wide(1, -1) of 64", BEYOND, Edge::full, y -> y.wide(1, -1));
        CueBoard y = new CueBoard();
        y.line(0, 1);
        due("wide(0, 0) of one place", y.wide(0, 0), BEYOND);
        y.line(0, 0);
        due("wide(0, 0) of none", y.wide(0, 0), BEYOND);
        y.line(0, 2);
        due("wide(0, 0) of two", y.wide(0, 0), 0);
    }
}

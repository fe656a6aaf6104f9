/** The edges that the document names in ==== 5 and the promises 20 to 29. */
final class CueEdges extends Edge {
    private static final int LIST = 0, PLACE = 1, MASTER = 2, FADES = 3, ENTRIES = 4, LEAVINGS = 5, CHANNELS = 6;

    private CueEdges() {
    }

    static void run() {
        cues();
        lists();
        playbacks();
        goInOrder();
        goPassesOver();
        fadeBegins();
        fadeAtOnce();
        fadeRounds();
        entry();
        list();
        load();
        go();
        stop();
        release();
        master();
        merge();
        value();
        playback();
    }

    private static void cues() {
        sentence("==== 5", "CUES 0 .. 15 have ENTRIES, 12 at most: a FIXTURE, a channel, a value, ticks (0 .. 100)");
        for (int cue = 0; cue < 16; cue++) {
            CueBoard x = one(SCREEN, 0, 3);
            for (int i = 1; i <= 12; i++) {
                due("entry " + i + " of " + cue, x.entry(cue, 0, i % 3, i, i == 12 ? 100 : 0), i);
            }
            due("a 13th of " + cue, x.entry(cue, 0, 0, 0, 0), FULL);
            due("a first of the next", x.entry((cue + 1) % 16, 0, 0, 0, 0), 1);
            x.list(0, cue, 0);
            x.go(0);
            due("the tenth is the last of GREEN", x.value(0, 0, 1), 10);
            due("the 11th is the last of BLUE", x.value(0, 0, 2), 11);
            due("the 12th fades RED from the ninth", x.value(0, 0, 0), 9);
            due("one fade goes", x.playback(0, FADES), 1);
        }
    }

    private static void lists() {
        sentence("==== 5", "LISTS 0 .. 3 have CUES, 8 at most, each with a FOLLOW (0 none, else 1 .. 50 TICKS)");
        for (int list = 0; list < 4; list++) {
            CueBoard x = new CueBoard();
            for (int i = 1; i <= 8; i++) {
                due("cue " + i + " of " + list, x.list(list, 16 - i, i % 2 * 50), i);
            }
            due("a ninth of " + list, x.list(list, 0, 0), FULL);
            due("a first of the next", x.list((list + 1) % 4, 0, 0), 1);
            x.load(3, list);
            for (int i = 1; i <= 8; i++) {
                due("go " + i, x.go(3), 16 - i);
            }
            due("a ninth go", x.go(3), NO);
        }
        CueBoard x = new CueBoard();
        for (int i = 0; i < 3; i++) {
            x.list(0, i, i == 0 ? 50 : i == 1 ? 1 : 0);
        }
        x.list(0, 3, 0);
        x.load(0, 0);
        x.go(0);
        for (int i = 0; i < 49; i++) {
            x.tick(1);
            due("place behind " + (i + 1) + " of 50", x.playback(0, PLACE), 0);
        }
        x.tick(1);
        due("place behind 50", x.playback(0, PLACE), 1);
        x.tick(1);
        due("place behind one more", x.playback(0, PLACE), 2);
        for (int i = 0; i < 11; i++) {
            x.tick(5);
            due("a follow of 0 is none", x.playback(0, PLACE), 2);
        }
        CueBoard y = new CueBoard();
        for (int list = 0; list < 4; list++) {
            y.list(list, 0, list + 1);
            y.list(list, 0, 0);
            y.load(list, list);
            y.go(list);
        }
        for (int ticks = 1; ticks <= 4; ticks++) {
            y.tick(1);
            for (int list = 0; list < 4; list++) {
                due("each list its own follow: " + list + " behind " + ticks, y.playback(list, PLACE), ticks > list ? 1 : 0);
            }
        }
    }

    private static void playbacks() {
        sentence("==== 5", "PLAYBACKS 0 .. 3 have a LIST or none, a PLACE in it (-1 at first), a MASTER (100), and CHANNELS with VALUES that fade");
        CueBoard x = new CueBoard();
        x.fixture(DIMMER, 0);
        x.entry(0, 0, 0, 10, 2);
        x.list(3, 0, 0);
        for (int p = 0; p < 4; p++) {
            due("no list", x.playback(p, LIST), NONE);
            due("no place", x.playback(p, PLACE), -1);
            due("its master", x.playback(p, MASTER), 100);
            due("no channels", x.playback(p, CHANNELS), 0);
            due("no value", x.value(p, 0, 0), NONE);
            x.load(p, 3);
            due("its list", x.playback(p, LIST), 3);
            x.go(p);
            due("its place", x.playback(p, PLACE), 0);
            due("its channels", x.playback(p, CHANNELS), 1);
            due("its value", x.value(p, 0, 0), 0);
            x.tick(1);
            due("its value fades", x.value(p, 0, 0), 5);
        }
        for (int wrong : new int[] {-1, 4}) {
            due("load(" + wrong + ", 0)", x.load(wrong, 0), BAD);
            due("playback(" + wrong + ", 0)", x.playback(wrong, 0), BAD);
        }
    }

    private static void goInOrder() {
        sentence("==== 5", "GO: PLACE is the next one, and its CUE begins: of its ENTRIES in order, of the FIXTURE, or each MEMBER of a GROUP in order");
        CueBoard x = new CueBoard();
        for (int f = 0; f < 3; f++) {
            x.fixture(DIMMER, 0);
        }
        x.group(0, 3);
        x.member(3, 0, 2);
        x.member(3, 2, 0);
        x.entry(5, 0, 0, 10, 0);
        x.entry(5, 3, 0, 20, 0);
        x.entry(5, 1, 0, 30, 0);
        x.entry(5, 2, 0, 40, 0);
        x.list(0, 5, 0);
        x.list(0, 6, 0);
        x.load(0, 0);
        due("go(0)", x.go(0), 5);
        due("its place", x.playback(0, PLACE), 0);
        due("a later entry of the same channel", x.value(0, 0, 0), 20);
        due("one that is in no group", x.value(0, 1, 0), 30);
        due("an entry behind that of the group", x.value(0, 2, 0), 40);
        due("go(0) to a cue without entries", x.go(0), 6);
        due("its place", x.playback(0, PLACE), 1);
        due("its channels stay", x.playback(0, CHANNELS), 3);
        // In one GROUP a MEMBER that comes twice fades from what the first time left.
        x.member(3, 1, 0);
        x.entry(7, 3, 0, 70, 0);
        x.entry(7, 3, 0, 0, 2);
        x.list(0, 7, 0);
        x.go(0);
        due("fades that go", x.playback(0, FADES), 2);
        x.tick(1);
        due("half of 70", x.value(0, 0, 0), 35);
        CueBoard y = new CueBoard();
        y.group(0, 6);
        y.entry(0, 0, 0, 1, 0);
        y.list(0, 0, 0);
        y.load(0, 0);
        due("go(0) for a group without members", y.go(0), 0);
        due("nothing found", y.found(3), 0);
        due("no channels", y.playback(0, CHANNELS), 0);
    }

    private static void goPassesOver() {
        sentence("==== 5", "one that has no such CHANNEL finds SORT, and is passed over");
        CueBoard x = new CueBoard();
        for (int kind = 0; kind < 4; kind++) {
            x.fixture(kind, 0);
        }
        x.group(0, 6);
        for (int f = 0; f < 4; f++) {
            x.member(4, f, f);
        }
        x.member(4, 5, 0);
        x.load(0, 0);
        int[] lack = {0, 2, 3};
        int sorts = 0;
        for (int c = 0; c < 3; c++) {
            send(x, c, 4, c, 100, 0);
            sorts += lack[c];
            due("found(3) of channel " + c, x.found(3), sorts);
        }
        due("the members that have it", x.value(0, 3, 2), 100);
        due("all channels", x.playback(0, CHANNELS), 9);
    }

    private static void fadeBegins() {
        sentence("==== 5", "else a FADE of that CHANNEL begins, in place of an earlier one: from the VALUE that it has in this PLAYBACK"
            + " (0 when it has none) to the value (255 at most of what is not wide) in those ticks");
        CueBoard x = one(MOVER, 0, 5);
        send(x, 0, 0, 2, 65535, 2);
        send(x, 1, 0, 0, 65535, 2);
        due("LEVEL at first", x.value(0, 0, 2), 0);
        x.tick(1);
        due("LEVEL on its way to 255", x.value(0, 0, 2), 128);
        due("PAN on its way to 65535", x.value(0, 0, 0), 32768);
        send(x, 2, 0, 2, 28, 100);
        due("one in place of the other", x.playback(0, FADES), 2);
        due("from where it is", x.value(0, 0, 2), 128);
        x.tick(1);
        due("PAN is there", x.value(0, 0, 0), 65535);
        due("one of a hundred", x.value(0, 0, 2), 127);
        for (int k = 2; k < 100; k++) {
            x.tick(1);
            due(k + " of a hundred", x.value(0, 0, 2), 128 - k);
            due("it goes", x.playback(0, FADES), 1);
        }
        x.tick(1);
        due("a hundred of a hundred", x.value(0, 0, 2), 28);
        due("it has ended", x.playback(0, FADES), 0);
        x.load(1, 0);
        x.go(1);
        x.tick(1);
        due("in another playback from 0", x.value(1, 0, 2), 128);
    }

    private static void fadeAtOnce() {
        sentence("==== 5", "in 0 ticks it is that at once");
        CueBoard x = one(DIMMER, 0, 1);
        send(x, 0, 0, 0, 255, 0);
        due("value(0, 0, 0)", x.value(0, 0, 0), 255);
        due("no fade goes", x.playback(0, FADES), 0);
        send(x, 1, 0, 0, 0, 1);
        due("in 1 tick not yet", x.value(0, 0, 0), 255);
        due("a fade goes", x.playback(0, FADES), 1);
        send(x, 2, 0, 0, 7, 0);
        due("in place of one that goes", x.value(0, 0, 0), 7);
        due("no fade goes any more", x.playback(0, FADES), 0);
        x.tick(1);
        due("it stays", x.value(0, 0, 0), 7);
        send(x, 3, 0, 0, 8, 1);
        x.tick(1);
        due("behind 1 tick", x.value(0, 0, 0), 8);
        due("it has ended", x.playback(0, FADES), 0);
    }

    /** PAN from a to b in t TICKS, compared with the document's sum, tick by tick. */
    private static void fade(int a, int b, int t) {
        CueBoard x = one(MOVER, 0, 5);
        send(x, 0, 0, 0, a, 0);
        send(x, 1, 0, 0, b, t);
        for (int k = 1; k <= t; k++) {
            x.tick(1);
            long twice = 2L * a * t + 2L * (b - a) * k;
            String name = "from " + a + " to " + b + ", " + k + " of " + t;
            due(name, x.value(0, 0, 0), Math.floorDiv(twice + t, 2L * t));
            due("fades behind " + name, x.playback(0, FADES), k < t ? 1 : 0);
        }
        x.tick(1);
        due("behind its end", x.value(0, 0, 0), b);
    }

    private static void fadeRounds() {
        sentence("==== 5", "A FADE from a to b in t ticks has behind k of them a and (b less a) times k by t, rounded to the nearest whole,"
            + " halves up; behind t it ends");
        int[][] fades = {{0, 65535, 100}, {65535, 0, 100}, {0, 1, 2}, {1, 0, 2}, {0, 3, 2}, {3, 0, 2}, {5, 2, 6}, {2, 5, 6}, {0, 1, 3},
            {1, 0, 3}, {0, 0, 5}, {9, 9, 1}, {65535, 65534, 100}, {65534, 65535, 100}, {0, 65535, 1}, {65535, 0, 1}, {100, 0, 8}};
        for (int[] f : fades) {
            fade(f[0], f[1], f[2]);
        }
        CueBoard x = one(DIMMER, 0, 1);
        send(x, 0, 0, 0, 5, 2);
        x.tick(1);
        due("2.5 on the way up", x.value(0, 0, 0), 3);
        x.tick(1);
        send(x, 1, 0, 0, 0, 2);
        x.tick(1);
        due("2.5 on the way down", x.value(0, 0, 0), 3);
        x.tick(1);
        due("its end", x.value(0, 0, 0), 0);
    }

    private static void entry() {
        sentence("Promise 20", "An ENTRY more of a CUE: how many");
        CueBoard x = full();
        due("entry(15, 23, 2, 65535, 100)", x.entry(15, 23, 2, 65535, 100), 1);
        due("entry(15, 0, 0, 0, 0)", x.entry(15, 0, 0, 0, 0), 2);
        due("entry(15, 0, 2, 0, 0) of no such channel", x.entry(15, 0, 2, 0, 0), 3);
        sentence("Promise 20", "BAD: CUE, FIXTURE, channel (0 .. 2), value (0 .. 65535), ticks");
        for (int wrong : new int[] {-1, 16, LEAST, GREATEST}) {
            refused("entry(" + wrong + ", 0, 0, 0, 0)", BAD, Edge::rich, y -> y.entry(wrong, 0, 0, 0, 0));
        }
        for (int wrong : new int[] {-1, 7, 24, LEAST, GREATEST}) {
            refused("entry(0, " + wrong + ", 0, 0, 0)", BAD, Edge::rich, y -> y.entry(0, wrong, 0, 0, 0));
        }
        for (int wrong : new int[] {-1, 3, LEAST, GREATEST}) {
            refused("entry(0, 3, " + wrong + ", 0, 0)", BAD, Edge::rich, y -> y.entry(0, 3, wrong, 0, 0));
        }
        for (int wrong : new int[] {-1, 65536, LEAST, GREATEST}) {
            refused("entry(0, 0, 0, " + wrong + ", 0)", BAD, Edge::rich, y -> y.entry(0, 0, 0, wrong, 0));
        }
        for (int wrong : new int[] {-1, 101, LEAST, GREATEST}) {
            refused("entry(0, 0, 0, 0, " + wrong + ")", BAD, Edge::rich, y -> y.entry(0, 0, 0, 0, wrong));
        }
        sentence("Promise 20", "FULL");
        refused("entry(0, 0, 0, 0, 0) as a 13th", FULL, Edge::full, y -> y.entry(0, 0, 0, 0, 0));
        refused("entry(0, 0, 0, 0, 101) as a 13th", BAD, Edge::full, y -> y.entry(0, 0, 0, 0, 101));
    }

    private static void list() {
        sentence("Promise 21", "A CUE more of a LIST, with a FOLLOW: how many");
        CueBoard x = full();
        due("list(3, 15, 50)", x.list(3, 15, 50), 1);
        due("list(3, 0, 0)", x.list(3, 0, 0), 2);
        due("list(3, 0, 1): the same cue again", x.list(3, 0, 1), 3);
        sentence("Promise 21", "BAD");
        for (int wrong : new int[] {-1, 4, LEAST, GREATEST}) {
            refused("list(" + wrong + ", 0, 0)", BAD, Edge::rich, y -> y.list(wrong, 0, 0));
        }
        for (int wrong : new int[] {-1, 16, LEAST, GREATEST}) {
            refused("list(0, " + wrong + ", 0)", BAD, Edge::rich, y -> y.list(0, wrong, 0));
        }
        for (int wrong : new int[] {-1, 51, LEAST, GREATEST}) {
            refused("list(0, 0, " + wrong + ")", BAD, Edge::rich, y -> y.list(0, 0, wrong));
        }
        sentence("Promise 21", "FULL");
        refused("list(0, 0, 0) as a ninth", FULL, Edge::full, y -> y.list(0, 0, 0));
        refused("list(0, 0, 51) as a ninth", BAD, Edge::full, y -> y.list(0, 0, 51));
    }

    private static void load() {
        sentence("Promise 22", "A PLAYBACK has a LIST (NONE: none), its PLACE is -1; its CHANNELS stay: 1");
        CueBoard x = rich();
        int fades = x.playback(0, FADES);
        int channels = x.playback(0, CHANNELS);
        int pan = x.value(0, 2, 0);
        for (int list : new int[] {3, 0, NONE, NONE}) {
            due("load(0, " + list + ")", x.load(0, list), 1);
            due("its list", x.playback(0, LIST), list);
            due("its place", x.playback(0, PLACE), -1);
            due("its channels", x.playback(0, CHANNELS), channels);
            due("its fades", x.playback(0, FADES), fades);
            due("its value", x.value(0, 2, 0), pan);
        }
        due("load(3, 0)", x.load(3, 0), 1);
        x.load(0, 0);
        x.tick(1);
        due("its fades go on", x.value(0, 2, 0) > pan ? 1 : 0, 1);
        x.tick(5);
        due("nothing follows", x.playback(0, PLACE), -1);
        due("go(0) is its first again", x.go(0), 0);
        sentence("Promise 22", "BAD");
        for (int wrong : new int[] {-1, 4, LEAST, GREATEST}) {
            refused("load(" + wrong + ", 0)", BAD, Edge::rich, y -> y.load(wrong, 0));
            refused("load(" + wrong + ", NONE)", BAD, Edge::rich, y -> y.load(wrong, NONE));
        }
        for (int wrong : new int[] {-2, 4, LEAST, GREATEST}) {
            refused("load(0, " + wrong + ")", BAD, Edge::rich, y -> y.load(0, wrong));
        }
    }

    private static CueBoard atTheEnd() {
        CueBoard x = rich();
        x.go(0);
        x.go(0);
        return x;
    }

    private static void go() {
        sentence("Promise 23", "GO: the CUE that begins (also where ENTRIES find SORT)");
        CueBoard x = one(DIMMER, 0, 1);
        x.entry(15, 0, 2, 1, 0);
        x.entry(15, 0, 0, 4, 0);
        x.entry(15, 0, 1, 1, 0);
        x.list(0, 15, 0);
        x.list(0, 0, 0);
        due("go(0)", x.go(0), 15);
        due("found(3)", x.found(3), 2);
        due("value(0, 0, 0)", x.value(0, 0, 0), 4);
        due("its place", x.playback(0, PLACE), 0);
        due("it is in the book", x.told(2), 10);
        due("entries", x.playback(0, ENTRIES), 1);
        due("leavings", x.playback(0, LEAVINGS), 1);
        due("go(0) to CUE 0", x.go(0), 0);
        sentence("Promise 23", "BAD");
        for (int wrong : new int[] {-1, 4, LEAST, GREATEST}) {
            refused("go(" + wrong + ")", BAD, Edge::rich, y -> y.go(wrong));
        }
        sentence("Promise 23", "NO: no LIST, or no next one");
        refused("go(3) without a list", NO, Edge::rich, y -> y.go(3));
        refused("go(2) in a list without cues", NO, Edge::rich, y -> y.go(2));
        refused("go(0) behind the last", NO, CueEdges::atTheEnd, y -> y.go(0));
        refused("go(0) on a new board", NO, CueBoard::new, y -> y.go(0));
        CueBoard y = atTheEnd();
        y.go(0);
        y.list(0, 9, 0);
        due("go(0) with one more", y.go(0), 9);
        CueBoard z = full();
        // Its second CUE has FOLLOWED the first one.
        for (int i = 2; i < 8; i++) {
            due("go(0)", z.go(0), i);
        }
        due("go(0) behind the eighth", z.go(0), NO);
        due("its place", z.playback(0, PLACE), 7);
    }

    /** 24 SCREENS, all of whose CHANNELS fade in PLAYBACK 0: there are no more. */
    private static CueBoard allFade() {
        CueBoard x = new CueBoard();
        for (int f = 0; f < 24; f++) {
            x.fixture(SCREEN, 0);
            for (int c = 0; c < 3; c++) {
                x.entry(f / 4, f, c, 100, 50);
            }
        }
        x.load(0, 0);
        for (int cue = 0; cue < 6; cue++) {
            x.list(0, cue, 2);
            x.go(0);
        }
        return x;
    }

    private static void stop() {
        sentence("Promise 24", "All FADES of a PLAYBACK stop where they are, and nothing FOLLOWS its CUE: how many went");
        CueBoard x = allFade();
        x.tick(1);
        due("stop(1) of none", x.stop(1), 0);
        due("stop(0)", x.stop(0), 72);
        due("stop(0) again", x.stop(0), 0);
        due("fades", x.playback(0, FADES), 0);
        due("channels stay", x.playback(0, CHANNELS), 72);
        x.list(0, 9, 0);
        x.tick(3);
        due("where they are", x.value(0, 0, 0), 2);
        due("the last one, too", x.value(0, 23, 2), 2);
        due("nothing follows", x.playback(0, PLACE), 5);
        due("the list stays", x.playback(0, LIST), 0);
        x.entry(9, 23, 1, 10, 8);
        x.go(0);
        x.tick(4);
        due("a new fade goes", x.value(0, 23, 1), 6);
        due("and no other one again", x.value(0, 23, 2), 2);
        due("stop(0) of the new one", x.stop(0), 1);
        CueBoard y = one(DIMMER, 0, 1);
        y.entry(0, 0, 0, 10, 2);
        y.list(0, 0, 3);
        y.list(0, 0, 3);
        y.list(0, 0, 3);
        y.go(0);
        y.tick(2);
        due("stop(0) when all have ended", y.stop(0), 0);
        y.tick(1);
        due("nothing follows", y.playback(0, PLACE), 0);
        y.go(0);
        y.tick(3);
        due("the next cue is followed", y.playback(0, PLACE), 2);
        y.load(0, 0);
        y.stop(0);
        y.go(0);
        y.tick(3);
        due("a stop before it began", y.playback(0, PLACE), 1);
        sentence("Promise 24", "BAD");
        for (int wrong : new int[] {-1, 4, LEAST, GREATEST}) {
            refused("stop(" + wrong + ")", BAD, Edge::rich, z -> z.stop(wrong));
        }
    }

    private static void release() {
        sentence("Promise 25", "A PLAYBACK has no CHANNELS any more, its PLACE is -1: how many it had");
        CueBoard x = allFade();
        x.master(0, 30);
        x.tick(1);
        due("release(1) of none", x.release(1), 0);
        due("release(0)", x.release(0), 72);
        due("release(0) again", x.release(0), 0);
        due("place", x.playback(0, PLACE), -1);
        due("fades", x.playback(0, FADES), 0);
        due("channels", x.playback(0, CHANNELS), 0);
        due("value(0, 0, 0)", x.value(0, 0, 0), NONE);
        due("value(0, 23, 2)", x.value(0, 23, 2), NONE);
        due("list stays", x.playback(0, LIST), 0);
        due("master stays", x.playback(0, MASTER), 30);
        x.tick(3);
        due("nothing follows", x.playback(0, PLACE), -1);
        due("go(0) is its first again", x.go(0), 0);
        x.tick(1);
        due("from 0 again", x.value(0, 0, 0), 2);
        sentence("Promise 25", "BAD");
        for (int wrong : new int[] {-1, 4, LEAST, GREATEST}) {
            refused("release(" + wrong + ")", BAD, Edge::rich, y -> y.release(wrong));
        }
    }

    private static void master() {
        sentence("Promise 26", "MASTER of a PLAYBACK (p NONE: GRAND) becomes m (0 .. 100): what it was");
        CueBoard x = new CueBoard();
        for (int p = -1; p < 4; p++) {
            due("master(" + p + ", 0)", x.master(p, 0), 100);
            due("master(" + p + ", 100)", x.master(p, 100), 0);
            due("master(" + p + ", 100) again", x.master(p, 100), 100);
            due("master(" + p + ", 40)", x.master(p, 40 + p), 100);
        }
        due("GRAND", x.told(4), 39);
        for (int p = 0; p < 4; p++) {
            due("playback(" + p + ", 2)", x.playback(p, MASTER), 40 + p);
        }
        sentence("Promise 26", "BAD");
        for (int wrong : new int[] {-2, 4, LEAST, GREATEST}) {
            refused("master(" + wrong + ", 50)", BAD, Edge::rich, y -> y.master(wrong, 50));
        }
        for (int wrong : new int[] {-1, 101, LEAST, GREATEST}) {
            refused("master(1, " + wrong + ")", BAD, Edge::rich, y -> y.master(1, wrong));
            refused("master(NONE, " + wrong + ")", BAD, Edge::rich, y -> y.master(NONE, wrong));
        }
    }

    private static void merge() {
        sentence("Promise 27", "A CHANNEL is MERGED by the greatest (latest = false), or by the latest: 1");
        CueBoard x = one(DIMMER, 0, 1);
        x.entry(0, 0, 0, 90, 0);
        x.entry(1, 0, 0, 30, 0);
        x.list(0, 0, 0);
        x.list(1, 1, 0);
        x.load(1, 1);
        x.go(0);
        x.go(1);
        x.tick(1);
        row(x, 0, 90);
        due("merge(0, 0, true)", x.merge(0, 0, true), 1);
        x.tick(1);
        row(x, 0, 30);
        due("merge(0, 0, true) again", x.merge(0, 0, true), 1);
        due("merge(0, 0, false)", x.merge(0, 0, false), 1);
        x.tick(1);
        row(x, 0, 90);
        for (int f = 0; f < 8; f++) {
            for (int c = 0; c < 3; c++) {
                mergeOne(f, c);
            }
        }
        sentence("Promise 27", "BAD");
        for (int wrong : new int[] {-1, 7, 24, LEAST, GREATEST}) {
            refused("merge(" + wrong + ", 0, true)", BAD, Edge::rich, y -> y.merge(wrong, 0, true));
        }
        for (int wrong : new int[] {-1, 3, LEAST, GREATEST}) {
            refused("merge(0, " + wrong + ", false)", BAD, Edge::rich, y -> y.merge(0, wrong, false));
        }
        sentence("Promise 27", "SORT: no such CHANNEL");
        int[][] wrong = {{0, 1}, {0, 2}, {1, 2}, {5, 0}, {5, 1}, {5, 2}};
        for (int[] w : wrong) {
            refused("merge(" + w[0] + ", " + w[1] + ", true)", SORT, Edge::rich, y -> y.merge(w[0], w[1], true));
        }
        int[][] right = {{0, 0}, {1, 0}, {1, 1}, {2, 0}, {2, 1}, {2, 2}, {3, 0}, {3, 1}, {3, 2}};
        for (int[] r : right) {
            due("merge(" + r[0] + ", " + r[1] + ", true)", rich().merge(r[0], r[1], true), 1);
        }
    }

    /** Of eight SCREENS one CHANNEL alone is MERGED by the latest. */
    private static void mergeOne(int f, int c) {
        CueBoard x = new CueBoard();
        x.line(0, 24);
        for (int i = 0; i < 8; i++) {
            x.fixture(SCREEN, 0);
            x.patch(i, 0, 3 * i);
            for (int k = 0; k < 3; k++) {
                x.entry(i / 4, i, k, 90, 0);
                x.entry(2 + i / 4, i, k, 30, 0);
            }
        }
        for (int p = 0; p < 2; p++) {
            x.list(p, 2 * p, 0);
            x.list(p, 2 * p + 1, 0);
            x.load(p, p);
            x.go(p);
            x.go(p);
        }
        x.merge(f, c, true);
        x.tick(1);
        for (int p = 0; p < 24; p++) {
            due("at(0, " + p + ") behind merge(" + f + ", " + c + ", true)", x.at(0, p), p == 3 * f + c ? 30 : 90);
        }
    }

    private static void value() {
        sentence("Promise 28", "The VALUE of a CHANNEL in a PLAYBACK; NONE: it has none");
        CueBoard x = one(MOVER, 0, 1);
        due("value(0, 0, 0) before", x.value(0, 0, 0), NONE);
        send(x, 0, 0, 0, 65535, 0);
        due("value(0, 0, 0)", x.value(0, 0, 0), 65535);
        send(x, 1, 0, 1, 0, 0);
        due("value(0, 0, 1) of 0", x.value(0, 0, 1), 0);
        due("value(0, 0, 2) of none", x.value(0, 0, 2), NONE);
        due("value(3, 0, 0) of none", x.value(3, 0, 0), NONE);
        send(x, 2, 0, 2, 9, 5);
        due("value(0, 0, 2) that has just begun", x.value(0, 0, 2), 0);
        x.release(0);
        due("value(0, 0, 0) released", x.value(0, 0, 0), NONE);
        sentence("Promise 28", "BAD");
        for (int wrong : new int[] {-1, 4, LEAST, GREATEST}) {
            refused("value(" + wrong + ", 0, 0)", BAD, Edge::rich, y -> y.value(wrong, 0, 0));
        }
        for (int wrong : new int[] {-1, 7, 24, LEAST, GREATEST}) {
            refused("value(0, " + wrong + ", 0)", BAD, Edge::rich, y -> y.value(0, wrong, 0));
        }
        for (int wrong : new int[] {-1, 3, LEAST, GREATEST}) {
            refused("value(0, 0, " + wrong + ")", BAD, Edge::rich, y -> y.value(0, 0, wrong));
        }
        sentence("Promise 28", "SORT");
        int[][] wrong = {{0, 1}, {0, 2}, {1, 2}, {5, 0}, {5, 2}};
        for (int[] w : wrong) {
            refused("value(3, " + w[0] + ", " + w[1] + ")", SORT, Edge::rich, y -> y.value(3, w[0], w[1]));
        }
    }

    private static void playback() {
        sentence("Promise 29", "Of a PLAYBACK: 0 LIST (NONE), 1 PLACE, 2 MASTER, 3 FADES that go, 4 ENTRIES, 5 LEAVINGS, 6 CHANNELS");
        int[] none = {NONE, -1, 100, 0, 0, 0, 0};
        // GO began four FADES of 4 TICKS, one of 7, one of 2 that has ended behind three, and one at once.
        int[] some = {0, 0, 100, 5, 4, 4, 7};
        for (int what = 0; what < 7; what++) {
            for (int p = 0; p < 4; p++) {
                due("playback(" + p + ", " + what + ") of a new board", new CueBoard().playback(p, what), none[what]);
            }
            due("playback(0, " + what + ")", rich().playback(0, what), some[what]);
        }
        sentence("Promise 29", "BAD");
        for (int wrong : new int[] {-1, 4, LEAST, GREATEST}) {
            refused("playback(" + wrong + ", 0)", BAD, Edge::rich, y -> y.playback(wrong, 0));
        }
        for (int wrong : new int[] {-1, 7, LEAST, GREATEST}) {
            refused("playback(0, " + wrong + ")", BAD, Edge::rich, y -> y.playback(0, wrong));
        }
    }
}

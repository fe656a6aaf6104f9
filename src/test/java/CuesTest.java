/** Promises 20 to 29: entry, list, load, go, stop, release, master, merge, value, playback. */
public final class CuesTest {
    private static final int SORT = -13;
    private static final int LIST = 0, PLACE = 1, MASTER = 2, FADES = 3, ENTRIES = 4, LEAVINGS = 5, CHANNELS = 6;

    public static void main(String[] args) {
        entries();
        lists();
        loads();
        goes();
        goesOverGroups();
        fades();
        fadesRound();
        fadesAnew();
        stops();
        releases();
        masters();
        merges();
        values();
        follows();
        followsNoMore();
        playbackWrong();
        Tally.end();
    }

    private static void entries() {
        CueBoard x = new CueBoard();
        x.fixture(0, 0);
        x.group(0, 0);
        int[][] bad = {{-1, 0, 0, 0, 0}, {16, 0, 0, 0, 0}, {0, -1, 0, 0, 0}, {0, 2, 0, 0, 0}, {0, 0, -1, 0, 0},
            {0, 0, 3, 0, 0}, {0, 0, 0, -1, 0}, {0, 0, 0, 65536, 0}, {0, 0, 0, 0, -1}, {0, 0, 0, 0, 101}};
        for (int[] b : bad) {
            Tally.due("wrong entry", x.entry(b[0], b[1], b[2], b[3], b[4]), CueBoard.BAD);
        }
        for (int i = 1; i <= 12; i++) {
            Tally.due("entry", x.entry(15, i % 2, i % 3, i == 1 ? 65535 : i, i == 2 ? 100 : i), i);
        }
        Tally.due("a 13th", x.entry(15, 0, 0, 0, 0), CueBoard.FULL);
        Tally.due("a wrong 13th", x.entry(15, 0, 0, 0, 101), CueBoard.BAD);
        Tally.due("another cue", x.entry(0, 0, 0, 0, 0), 1);
        Tally.due("booked", x.told(2), 15);
        Tally.due("nothing found", x.found(3), 0);
    }

    private static void lists() {
        CueBoard x = new CueBoard();
        int[][] bad = {{-1, 0, 0}, {4, 0, 0}, {0, -1, 0}, {0, 16, 0}, {0, 0, -1}, {0, 0, 51}};
        for (int[] b : bad) {
            Tally.due("wrong list", x.list(b[0], b[1], b[2]), CueBoard.BAD);
        }
        for (int i = 1; i <= 8; i++) {
            Tally.due("list", x.list(3, i == 8 ? 15 : 0, i == 1 ? 50 : 0), i);
        }
        Tally.due("a ninth", x.list(3, 0, 0), CueBoard.FULL);
        Tally.due("a wrong ninth", x.list(3, 0, 51), CueBoard.BAD);
        Tally.due("another list", x.list(0, 15, 50), 1);
        Tally.due("booked", x.told(2), 9);
    }

    private static void loads() {
        CueBoard x = new CueBoard();
        Tally.due("load(-1, 0)", x.load(-1, 0), CueBoard.BAD);
        Tally.due("load(4, 0)", x.load(4, 0), CueBoard.BAD);
        Tally.due("load(0, -2)", x.load(0, -2), CueBoard.BAD);
        Tally.due("load(0, 4)", x.load(0, 4), CueBoard.BAD);
        Tally.due("load", x.load(3, 3), 1);
        Tally.due("list", x.playback(3, LIST), 3);
        Tally.due("an empty list", x.go(3), CueBoard.NO);
        x.fixture(0, 0);
        x.entry(7, 0, 0, 100, 4);
        x.list(3, 7, 3);
        x.list(3, 8, 0);
        Tally.due("go", x.go(3), 7);
        x.tick(1);
        Tally.due("load anew", x.load(3, 3), 1);
        Tally.due("place", x.playback(3, PLACE), -1);
        Tally.due("channels stay", x.playback(3, CHANNELS), 1);
        Tally.due("fades go on", x.playback(3, FADES), 1);
        x.tick(1);
        Tally.due("value goes on", x.value(3, 0, 0), 50);
        x.tick(3);
        Tally.due("nothing follows", x.playback(3, PLACE), -1);
        Tally.due("load none", x.load(3, CueBoard.NONE), 1);
        Tally.due("no list", x.playback(3, LIST), CueBoard.NONE);
        Tally.due("go of none", x.go(3), CueBoard.NO);
        Tally.due("its value", x.value(3, 0, 0), 100);
    }

    private static void goes() {
        CueBoard x = new CueBoard();
        x.fixture(0, 0);
        x.fixture(2, 0);
        Tally.due("go(-1)", x.go(-1), CueBoard.BAD);
        Tally.due("go(4)", x.go(4), CueBoard.BAD);
        Tally.due("no list", x.go(1), CueBoard.NO);
        x.entry(9, 0, 0, 65535, 0);
        x.entry(9, 1, 0, 65535, 0);
        x.entry(9, 1, 2, 256, 0);
        x.entry(9, 0, 1, 7, 0);
        x.entry(9, 1, 1, 300, 0);
        x.list(2, 9, 0);
        x.list(2, 3, 0);
        x.load(1, 2);
        Tally.due("go", x.go(1), 9);
        Tally.due("place", x.playback(1, PLACE), 0);
        Tally.due("255 at most", x.value(1, 0, 0), 255);
        Tally.due("wide", x.value(1, 1, 0), 65535);
        Tally.due("behind what was passed over", x.value(1, 1, 1), 300);
        Tally.due("level of a mover", x.value(1, 1, 2), 255);
        Tally.due("found SORT", x.found(3), 1);
        Tally.due("channels", x.playback(1, CHANNELS), 4);
        Tally.due("no fades", x.playback(1, FADES), 0);
        Tally.due("entries", x.playback(1, ENTRIES), 1);
        Tally.due("leavings", x.playback(1, LEAVINGS), 1);
        Tally.due("go on", x.go(1), 3);
        Tally.due("place", x.playback(1, PLACE), 1);
        Tally.due("no next one", x.go(1), CueBoard.NO);
        Tally.due("place stays", x.playback(1, PLACE), 1);
        Tally.due("entries of what was not refused", x.playback(1, ENTRIES), 2);
        Tally.due("leavings", x.playback(1, LEAVINGS), 2);
        x.list(2, 0, 0);
        Tally.due("a next one now", x.go(1), 0);
        x.tick(3);
        Tally.due("entries by ticks", x.playback(1, ENTRIES), 6);
        Tally.due("leavings by ticks", x.playback(1, LEAVINGS), 6);
        Tally.due("of another", x.playback(0, ENTRIES), 3);
        Tally.due("of another", x.playback(3, LEAVINGS), 3);
        Tally.due("of another", x.playback(0, LEAVINGS), 3);
    }

    private static void goesOverGroups() {
        CueBoard x = new CueBoard();
        for (int kind = 0; kind < 4; kind++) {
            x.fixture(kind, 0);
        }
        x.group(0, 6);
        x.member(4, 0, 3);
        x.member(4, 2, 0);
        x.member(4, 3, 2);
        x.member(4, 5, 3);
        x.group(0, 3);
        x.member(5, 1, 4);
        x.member(5, 2, 1);
        x.entry(0, 5, 1, 1000, 0);
        x.list(0, 0, 0);
        x.load(0, 0);
        Tally.due("go", x.go(0), 0);
        Tally.due("screen", x.value(0, 3, 1), 255);
        Tally.due("mover", x.value(0, 2, 1), 1000);
        Tally.due("strobe", x.value(0, 1, 1), 255);
        Tally.due("channels", x.playback(0, CHANNELS), 3);
        Tally.due("the dimmer finds SORT", x.found(3), 1);
        x.entry(1, 4, 2, 9, 0);
        x.entry(1, 1, 2, 9, 0);
        x.list(0, 1, 0);
        x.member(4, 0, 0);
        Tally.due("go", x.go(0), 1);
        Tally.due("twice the dimmer, and the strobe", x.found(3), 1 + 2 + 1);
        x.group(1, 4);
        x.entry(2, 6, 0, 9, 0);
        x.list(0, 2, 0);
        Tally.due("an empty group", x.go(0), 2);
        Tally.due("found no more", x.found(3), 4);
    }

    private static CueBoard one(int value, int ticks) {
        CueBoard x = new CueBoard();
        x.fixture(2, 0);
        x.entry(0, 0, 0, value, ticks);
        x.list(0, 0, 0);
        x.load(0, 0);
        x.go(0);
        return x;
    }

    private static void fades() {
        CueBoard x = one(1000, 4);
        Tally.due("has it at once", x.value(0, 0, 0), 0);
        Tally.due("a channel", x.playback(0, CHANNELS), 1);
        Tally.due("a fade", x.playback(0, FADES), 1);
        int[] due = {250, 500, 750, 1000, 1000};
        int[] going = {1, 1, 1, 0, 0};
        for (int i = 0; i < due.length; i++) {
            x.tick(1);
            Tally.due("fading", x.value(0, 0, 0), due[i]);
            Tally.due("going", x.playback(0, FADES), going[i]);
        }
        CueBoard y = one(65535, 100);
        for (int k = 1; k <= 100; k++) {
            y.tick(1);
            Tally.due("behind " + k, y.value(0, 0, 0), (65535 * 2 * k + 100) / 200);
        }
        Tally.due("ended", y.playback(0, FADES), 0);
        CueBoard z = one(1000, 1);
        Tally.due("not yet", z.value(0, 0, 0), 0);
        Tally.due("it goes", z.playback(0, FADES), 1);
        z.load(0, 0);
        z.go(0);
        Tally.due("one in place of the other", z.playback(0, FADES), 1);
        z.tick(1);
        Tally.due("in one tick", z.value(0, 0, 0), 1000);
        Tally.due("ended", z.playback(0, FADES), 0);
    }

    /** Halves go up, also on the way down. */
    private static void fadesRound() {
        CueBoard x = one(5, 2);
        x.tick(1);
        Tally.due("2.5", x.value(0, 0, 0), 3);
        x.tick(1);
        x.entry(1, 0, 0, 0, 2);
        x.list(0, 1, 0);
        x.go(0);
        x.tick(1);
        Tally.due("5 less 2.5", x.value(0, 0, 0), 3);
        x.entry(2, 0, 0, 10, 3);
        x.list(0, 2, 0);
        x.go(0);
        int[] due = {5, 8, 10};
        for (int k = 0; k < 3; k++) {
            x.tick(1);
            Tally.due("from 3 in thirds", x.value(0, 0, 0), due[k]);
        }
        x.entry(3, 0, 0, 0, 4);
        x.list(0, 3, 0);
        x.go(0);
        int[] down = {8, 5, 3, 0};
        for (int k = 0; k < 4; k++) {
            x.tick(1);
            Tally.due("from 10 in quarters", x.value(0, 0, 0), down[k]);
        }
    }

    private static void fadesAnew() {
        CueBoard x = one(100, 10);
        x.tick(5);
        x.entry(1, 0, 0, 0, 5);
        x.entry(1, 0, 0, 60, 0);
        x.entry(1, 0, 0, 20, 2);
        x.list(0, 1, 0);
        x.go(0);
        Tally.due("at once ahead of a fade", x.value(0, 0, 0), 60);
        Tally.due("one fade", x.playback(0, FADES), 1);
        x.tick(1);
        Tally.due("in place of the earlier ones", x.value(0, 0, 0), 40);
        x.entry(2, 0, 0, 7, 0);
        x.list(0, 2, 0);
        x.go(0);
        Tally.due("no fade any more", x.playback(0, FADES), 0);
        x.tick(1);
        Tally.due("it stays", x.value(0, 0, 0), 7);
        x.load(1, 0);
        x.go(1);
        x.tick(1);
        Tally.due("each playback its own", x.value(1, 0, 0), 10);
        Tally.due("the first one's", x.value(0, 0, 0), 7);
    }

    private static void stops() {
        CueBoard x = one(100, 4);
        Tally.due("stop(-1)", x.stop(-1), CueBoard.BAD);
        Tally.due("stop(4)", x.stop(4), CueBoard.BAD);
        Tally.due("stop another", x.stop(1), 0);
        x.tick(1);
        Tally.due("stop", x.stop(0), 1);
        Tally.due("stop again", x.stop(0), 0);
        Tally.due("no fades", x.playback(0, FADES), 0);
        x.tick(2);
        Tally.due("where it was", x.value(0, 0, 0), 25);
        Tally.due("place stays", x.playback(0, PLACE), 0);
        Tally.due("channels stay", x.playback(0, CHANNELS), 1);
        CueBoard y = one(100, 4);
        y.entry(0, 0, 2, 9, 3);
        y.entry(0, 0, 1, 9, 0);
        y.load(0, 0);
        y.go(0);
        Tally.due("two went", y.stop(0), 2);
        Tally.due("none of a tick", y.value(0, 0, 2), 0);
        y.entry(1, 0, 1, 40, 4);
        y.list(0, 1, 0);
        y.go(0);
        y.tick(1);
        Tally.due("one goes", y.playback(0, FADES), 1);
        Tally.due("the new one", y.value(0, 0, 1), 17);
        Tally.due("what stopped goes on no more", y.value(0, 0, 0), 0);
    }

    private static void releases() {
        CueBoard x = one(100, 4);
        Tally.due("release(-1)", x.release(-1), CueBoard.BAD);
        Tally.due("release(4)", x.release(4), CueBoard.BAD);
        Tally.due("release another", x.release(2), 0);
        x.master(0, 40);
        x.tick(1);
        Tally.due("release", x.release(0), 1);
        Tally.due("none", x.value(0, 0, 0), CueBoard.NONE);
        Tally.due("place", x.playback(0, PLACE), -1);
        Tally.due("no fades", x.playback(0, FADES), 0);
        Tally.due("no channels", x.playback(0, CHANNELS), 0);
        Tally.due("the list stays", x.playback(0, LIST), 0);
        Tally.due("the master stays", x.playback(0, MASTER), 40);
        Tally.due("entries stay", x.playback(0, ENTRIES), 2);
        x.tick(2);
        Tally.due("still none", x.value(0, 0, 0), CueBoard.NONE);
        Tally.due("go from the first", x.go(0), 0);
        Tally.due("from 0", x.value(0, 0, 0), 0);
        x.tick(1);
        Tally.due("a quarter", x.value(0, 0, 0), 25);
        Tally.due("release again", x.release(0), 1);
        Tally.due("and again", x.release(0), 0);
    }

    private static void masters() {
        CueBoard x = new CueBoard();
        Tally.due("master(-2, 5)", x.master(-2, 5), CueBoard.BAD);
        Tally.due("master(4, 5)", x.master(4, 5), CueBoard.BAD);
        Tally.due("master(0, -1)", x.master(0, -1), CueBoard.BAD);
        Tally.due("master(0, 101)", x.master(0, 101), CueBoard.BAD);
        Tally.due("master(NONE, 101)", x.master(CueBoard.NONE, 101), CueBoard.BAD);
        Tally.due("master(3, 0)", x.master(3, 0), 100);
        Tally.due("master(3, 100)", x.master(3, 100), 0);
        Tally.due("GRAND", x.master(CueBoard.NONE, 33), 100);
        Tally.due("GRAND again", x.master(CueBoard.NONE, 33), 33);
        Tally.due("told", x.told(4), 33);
        Tally.due("master of one", x.playback(3, MASTER), 100);
        Tally.due("booked", x.told(2), 4);
        mastersDim();
    }

    /** MASTER and GRAND cut LEVELS, each by itself, and leave what is not DIMMING as it is. */
    private static void mastersDim() {
        CueBoard x = new CueBoard();
        x.line(0, 16);
        x.fixture(1, 0);
        x.fixture(2, 0);
        x.fixture(3, 0);
        x.patch(0, 0, 0);
        x.patch(1, 0, 2);
        x.patch(2, 0, 7);
        int[][] channels = {{0, 0}, {0, 1}, {1, 0}, {1, 1}, {1, 2}, {2, 0}, {2, 1}, {2, 2}};
        for (int[] c : channels) {
            x.entry(0, c[0], c[1], 201, 0);
        }
        x.list(0, 0, 0);
        x.load(0, 0);
        x.go(0);
        x.master(0, 50);
        x.tick(1);
        int[] half = {100, 201, 0, 201, 0, 201, 100, 100, 100, 100};
        for (int p = 0; p < half.length; p++) {
            Tally.due("half at " + p, x.at(0, p), half[p]);
        }
        x.master(CueBoard.NONE, 55);
        x.tick(1);
        int[] less = {55, 201, 0, 201, 0, 201, 55, 55, 55, 55};
        for (int p = 0; p < less.length; p++) {
            Tally.due("less at " + p, x.at(0, p), less[p]);
        }
        x.master(0, 7);
        x.master(CueBoard.NONE, 99);
        x.tick(1);
        Tally.due("201 * 7 / 100 is 14, and that * 99 / 100 is 13", x.at(0, 0), 13);
        Tally.due("the value stays", x.value(0, 0, 0), 201);
    }

    private static CueBoard merging() {
        CueBoard x = new CueBoard();
        x.line(0, 8);
        x.fixture(0, 0);
        x.fixture(2, 0);
        x.patch(0, 0, 0);
        x.patch(1, 0, 1);
        int[] values = {100, 60, 80};
        for (int p = 0; p < 3; p++) {
            x.entry(p, 0, 0, values[p], 0);
            x.entry(p, 1, 0, values[p] * 256, 0);
            x.list(p, p, 0);
            x.load(p, p);
        }
        return x;
    }

    private static void merges() {
        CueBoard x = merging();
        Tally.due("no such f", x.merge(2, 0, true), CueBoard.BAD);
        Tally.due("no such f", x.merge(-1, 0, true), CueBoard.BAD);
        Tally.due("channel 3", x.merge(0, 3, true), CueBoard.BAD);
        Tally.due("channel -1", x.merge(0, -1, true), CueBoard.BAD);
        Tally.due("no such channel", x.merge(0, 1, true), SORT);
        x.group(0, 0);
        Tally.due("a group's", x.merge(2, 0, false), SORT);
        Tally.due("found SORT", x.found(3), 2);
        Tally.due("wide", x.merge(1, 1, true), 1);
        x.merge(0, 0, true);
        x.tick(1);
        Tally.due("0 without any, latest", x.at(0, 0), 0);
        x.merge(0, 0, false);
        x.tick(1);
        Tally.due("0 without any", x.at(0, 0), 0);
        x.go(0);
        x.go(1);
        x.tick(1);
        Tally.due("greatest", x.at(0, 0), 100);
        Tally.due("greatest of wide", x.wide(0, 1), 25600);
        Tally.due("latest", x.merge(0, 0, true), 1);
        x.tick(1);
        Tally.due("latest", x.at(0, 0), 60);
        Tally.due("greatest of wide", x.wide(0, 1), 25600);
        x.go(2);
        x.tick(1);
        Tally.due("the latest one now", x.at(0, 0), 80);
        x.merge(1, 0, true);
        x.tick(1);
        Tally.due("latest of wide", x.wide(0, 1), 80 * 256);
        x.load(0, 0);
        x.go(0);
        x.tick(1);
        Tally.due("the first began last", x.at(0, 0), 100);
        x.release(0);
        x.tick(1);
        Tally.due("of those that have it", x.at(0, 0), 80);
        x.merge(0, 0, false);
        x.master(2, 50);
        x.tick(1);
        Tally.due("greatest by masters", x.at(0, 0), 60);
        x.merge(0, 0, true);
        x.tick(1);
        Tally.due("latest by master", x.at(0, 0), 40);
        mergesByBeginning();
        mergesTheOnlyFade();
    }

    private static void mergesTheOnlyFade() {
        CueBoard x = new CueBoard();
        x.line(0, 1);
        x.fixture(0, 0);
        x.patch(0, 0, 0);
        x.merge(0, 0, true);
        x.entry(0, 0, 0, 77, 0);
        x.list(0, 0, 0);
        x.load(3, 0);
        x.go(3);
        x.tick(1);
        Tally.due("the first fade of all is the latest", x.at(0, 0), 77);
    }

    /** When a FADE began counts, not when it ended; a stop begins none. */
    private static void mergesByBeginning() {
        CueBoard x = merging();
        x.entry(4, 0, 0, 10, 5);
        x.list(3, 4, 0);
        x.load(3, 3);
        x.merge(0, 0, true);
        x.go(3);
        x.go(0);
        x.tick(5);
        Tally.due("began last", x.at(0, 0), 100);
        x.stop(3);
        x.tick(1);
        Tally.due("a stop begins none", x.at(0, 0), 100);
        x.load(3, 3);
        x.go(3);
        x.tick(1);
        Tally.due("a fade that begins", x.at(0, 0), 10);
        mergesInATick();
        mergesByChannels();
    }

    private static void mergesByChannels() {
        for (int c = 0; c < 3; c++) {
            CueBoard x = new CueBoard();
            x.line(0, 9);
            x.fixture(3, 0);
            x.fixture(3, 0);
            x.fixture(3, 0);
            x.group(0, 3);
            for (int f = 0; f < 3; f++) {
                x.patch(f, 0, 3 * f);
                x.member(3, f, f);
            }
            for (int i = 0; i < 3; i++) {
                x.entry(0, 3, i, 90, 0);
                x.entry(1, 3, i, 30, 0);
            }
            x.list(0, 0, 0);
            x.list(1, 1, 0);
            x.load(0, 0);
            x.load(1, 1);
            x.go(0);
            x.go(1);
            x.merge(1, c, true);
            x.tick(1);
            for (int p = 0; p < 9; p++) {
                Tally.due("one channel by the latest, at " + p, x.at(0, p), p == 3 + c ? 30 : 90);
            }
        }
    }

    /** In one TICK the PLAYBACKS FOLLOW by numbers. */
    private static void mergesInATick() {
        CueBoard x = new CueBoard();
        x.line(0, 1);
        x.fixture(0, 0);
        x.patch(0, 0, 0);
        x.merge(0, 0, true);
        x.entry(0, 0, 0, 90, 0);
        x.entry(1, 0, 0, 30, 0);
        for (int p = 0; p < 2; p++) {
            x.list(p, 2, 1);
            x.list(p, p, 0);
            x.load(p, p);
        }
        x.go(1);
        x.go(0);
        x.tick(1);
        Tally.due("that of the higher number", x.at(0, 0), 30);
    }

    private static void values() {
        CueBoard x = one(10, 0);
        x.fixture(0, 0);
        x.group(0, 0);
        Tally.due("value", x.value(0, 0, 0), 10);
        Tally.due("none of this channel", x.value(0, 0, 1), CueBoard.NONE);
        Tally.due("none in this playback", x.value(1, 0, 0), CueBoard.NONE);
        Tally.due("no such playback", x.value(-1, 0, 0), CueBoard.BAD);
        Tally.due("no such playback", x.value(4, 0, 0), CueBoard.BAD);
        Tally.due("no such f", x.value(0, -1, 0), CueBoard.BAD);
        Tally.due("no such f", x.value(0, 3, 0), CueBoard.BAD);
        Tally.due("channel -1", x.value(0, 0, -1), CueBoard.BAD);
        Tally.due("channel 3", x.value(0, 0, 3), CueBoard.BAD);
        Tally.due("channel 3 of a group", x.value(0, 2, 3), CueBoard.BAD);
        Tally.due("no such channel", x.value(0, 1, 1), SORT);
        Tally.due("a group's", x.value(0, 2, 0), SORT);
        Tally.due("found SORT", x.found(3), 2);
    }

    private static CueBoard following(int... follows) {
        CueBoard x = new CueBoard();
        x.fixture(0, 0);
        for (int i = 0; i < follows.length; i++) {
            x.entry(i, 0, 0, 10 * (i + 1), 2);
            x.list(0, i, follows[i]);
        }
        x.load(0, 0);
        x.go(0);
        return x;
    }

    private static void follows() {
        CueBoard x = following(2, 1, 3, 0, 1);
        int[] places = {0, 1, 2, 2, 2, 3, 3, 3, 3};
        int[] values = {5, 10, 15, 23, 30, 30, 35, 40, 40};
        for (int i = 0; i < places.length; i++) {
            x.tick(1);
            Tally.due("place behind tick " + (i + 1), x.playback(0, PLACE), places[i]);
            Tally.due("value behind tick " + (i + 1), x.value(0, 0, 0), values[i]);
        }
        Tally.due("by hand", x.go(0), 4);
        x.tick(5);
        Tally.due("no next one", x.playback(0, PLACE), 4);
        Tally.due("entries: ticks and two go()", x.playback(0, ENTRIES), 16);
        CueBoard y = following(50, 0);
        for (int i = 0; i < 9; i++) {
            y.tick(5);
        }
        y.tick(4);
        Tally.due("49 ticks", y.playback(0, PLACE), 0);
        y.tick(1);
        Tally.due("50 ticks", y.playback(0, PLACE), 1);
        CueBoard w = new CueBoard();
        w.list(0, 0, 1);
        w.list(3, 0, 0);
        w.list(3, 0, 2);
        w.list(3, 0, 0);
        w.load(2, 3);
        w.go(2);
        w.tick(3);
        Tally.due("each list its own follows", w.playback(2, PLACE), 0);
        w.go(2);
        w.tick(1);
        Tally.due("one of two", w.playback(2, PLACE), 1);
        w.tick(1);
        Tally.due("two of two", w.playback(2, PLACE), 2);
        CueBoard z = following(3, 3, 0);
        z.tick(2);
        z.go(0);
        z.tick(2);
        Tally.due("counted since it began", z.playback(0, PLACE), 1);
        z.tick(1);
        Tally.due("then it follows", z.playback(0, PLACE), 2);
    }

    private static void followsNoMore() {
        CueBoard x = following(2);
        x.tick(2);
        x.list(0, 0, 0);
        x.tick(5);
        Tally.due("too late", x.playback(0, PLACE), 0);
        CueBoard y = following(2);
        y.tick(1);
        y.list(0, 0, 0);
        y.tick(1);
        Tally.due("just in time", y.playback(0, PLACE), 1);
        CueBoard z = following(2, 2, 0);
        z.tick(1);
        z.stop(0);
        z.tick(3);
        Tally.due("stopped", z.playback(0, PLACE), 0);
        z.go(0);
        z.tick(2);
        Tally.due("the next one is followed again", z.playback(0, PLACE), 2);
        CueBoard r = following(2, 2, 0);
        r.tick(1);
        r.release(0);
        r.tick(3);
        Tally.due("released", r.playback(0, PLACE), -1);
        Tally.due("no channels", r.playback(0, CHANNELS), 0);
    }

    private static void playbackWrong() {
        CueBoard x = new CueBoard();
        Tally.due("playback(-1, 0)", x.playback(-1, 0), CueBoard.BAD);
        Tally.due("playback(4, 0)", x.playback(4, 0), CueBoard.BAD);
        Tally.due("playback(0, -1)", x.playback(0, -1), CueBoard.BAD);
        Tally.due("playback(0, 7)", x.playback(0, 7), CueBoard.BAD);
    }
}

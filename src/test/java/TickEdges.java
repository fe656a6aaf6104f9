/** The edges that the document names in ==== 6 and the promises 30 to 35. */
final class TickEdges extends Edge {
    private static final int PLACE = 1, FADES = 3, ENTRIES = 4, LEAVINGS = 5;

    private TickEdges() {
    }

    static void run() {
        counted();
        fadesFirst();
        follows();
        followsNoMore();
        masters();
        merges();
        grand();
        bentThenMost();
        heats();
        wholes();
        cuts();
        cutsByOrder();
        cutsOfAll();
        cutsOfDimmingAlone();
        blackouts();
        blackoutHeat();
        written();
        beyond();
        nothing();
        acts();
        limit();
        heat();
        over();
        blackout();
        tick();
        found();
    }

    private static void counted() {
        sentence("==== 6", "A TICK: TICKS are one more");
        CueBoard x = new CueBoard();
        due("tick(1)", x.tick(1), 1);
        due("tick(5)", x.tick(5), 6);
        due("told(1)", x.told(1), 6);
    }

    private static void fadesFirst() {
        sentence("==== 6", "then PLAYBACKS by numbers: its FADES go one tick on");
        CueBoard x = one(DIMMER, 0, 1);
        send(x, 0, 0, 0, 10, 1);
        x.tick(1);
        row(x, 0, 10);
        send(x, 1, 0, 0, 0, 100);
        x.tick(1);
        due("one of a hundred", x.value(0, 0, 0), 10);
        x.tick(5);
        due("six of a hundred", x.value(0, 0, 0), 9);
        // In one TICK the FADE of the higher number begins later, whichever went first before.
        CueBoard y = one(DIMMER, 0, 1);
        y.merge(0, 0, true);
        y.entry(0, 0, 0, 90, 0);
        y.entry(1, 0, 0, 30, 0);
        for (int p = 0; p < 4; p++) {
            y.list(p, 9, 1);
            y.list(p, p == 2 ? 0 : 1, 0);
            y.load(p, p);
        }
        y.go(3);
        y.go(2);
        y.go(0);
        y.tick(1);
        row(y, 0, 30);
        y.release(3);
        y.tick(1);
        row(y, 0, 90);
    }

    /** CUES of one ENTRY each (10, 20, ..) in so many ticks, with those FOLLOWS, in PLAYBACK 0, that goes. */
    private static CueBoard following(int ticks, int... follows) {
        CueBoard x = one(DIMMER, 0, 1);
        for (int i = 0; i < follows.length; i++) {
            x.entry(i, 0, 0, 10 * (i + 1), ticks);
            x.list(0, i, follows[i]);
        }
        x.go(0);
        return x;
    }

    private static void follows() {
        sentence("==== 6", "then if its CUE (that at its PLACE) has a FOLLOW, and just that many TICKS went since it began (this one too),"
            + " and a next one is there, it GOES");
        CueBoard x = following(2, 1, 1, 2, 50, 0, 3);
        int[] places = {1, 2, 2, 3, 3};
        int[] values = {5, 13, 22, 30, 35};
        for (int i = 0; i < places.length; i++) {
            x.tick(1);
            due("place behind " + (i + 1), x.playback(0, PLACE), places[i]);
            due("value behind " + (i + 1), x.value(0, 0, 0), values[i]);
        }
        for (int i = 0; i < 48; i++) {
            x.tick(1);
        }
        due("place behind 49 of 50", x.playback(0, PLACE), 3);
        x.tick(1);
        due("place behind 50 of 50", x.playback(0, PLACE), 4);
        due("the value it fades from", x.value(0, 0, 0), 40);
        x.tick(5);
        due("without a follow", x.playback(0, PLACE), 4);
        // In 0 ticks: its VALUE is written in the TICK in which it FOLLOWS.
        CueBoard y = following(0, 1, 0);
        y.tick(1);
        row(y, 0, 20);
        CueBoard z = following(0, 3, 3, 0);
        z.tick(2);
        z.go(0);
        z.tick(2);
        due("two since the second began", z.playback(0, PLACE), 1);
        z.tick(1);
        due("three since the second began", z.playback(0, PLACE), 2);
        CueBoard w = following(0, 5, 5, 5, 0);
        w.tick(5);
        due("in a call of five", w.playback(0, PLACE), 1);
        w.tick(4);
        w.tick(5);
        due("across calls", w.playback(0, PLACE), 2);
    }

    private static void followsNoMore() {
        sentence("==== 6", "(if none is there then, nothing FOLLOWS any more)");
        CueBoard x = following(0, 2);
        x.tick(2);
        x.list(0, 7, 0);
        for (int i = 0; i < 12; i++) {
            x.tick(5);
            due("one that came too late", x.playback(0, PLACE), 0);
        }
        due("go(0) by hand", x.go(0), 7);
        CueBoard y = following(0, 2);
        y.tick(1);
        y.list(0, 7, 0);
        y.tick(1);
        due("one that came in time", y.playback(0, PLACE), 1);
        CueBoard z = following(0, 1, 1, 1, 1, 1, 1, 1, 1);
        z.tick(5);
        z.tick(5);
        due("behind the last of eight", z.playback(0, PLACE), 7);
        due("go(0)", z.go(0), NO);
    }

    private static void masters() {
        sentence("==== 6", "Then each CHANNEL of FIXTURES that are PATCHED: its VALUES in the PLAYBACKS that have it,"
            + " of DIMMING ones each times MASTER by 100, cut");
        CueBoard x = one(STROBE, 0, 2);
        send(x, 0, 0, 0, 255, 0);
        send(x, 1, 0, 1, 255, 0);
        int[] master = {100, 99, 50, 1, 0};
        int[] level = {255, 252, 127, 2, 0};
        for (int i = 0; i < master.length; i++) {
            x.master(0, master[i]);
            x.tick(1);
            row(x, 0, level[i], 255);
        }
        x.master(0, 100);
        x.unpatch(0);
        x.tick(1);
        row(x, 0, 0, 0);
        // Cut ahead of merging: 99 of 100 of 1 is 0.
        x.patch(0, 0, 0);
        send(x, 2, 0, 0, 1, 0);
        x.master(0, 99);
        x.tick(1);
        row(x, 0, 0, 255);
    }

    private static CueBoard merging() {
        CueBoard x = one(DIMMER, 0, 1);
        int[] values = {40, 90, 60, 0};
        for (int p = 0; p < 4; p++) {
            x.entry(p, 0, 0, values[p], p == 0 ? 4 : 0);
            x.list(p, p, 0);
            x.load(p, p);
        }
        return x;
    }

    private static void merges() {
        sentence("==== 6", "MERGED: the greatest, or (as told) that of the PLAYBACK, of those that have it,"
            + " whose FADE of it began last (one of 0 ticks begins, too)");
        for (int latest = 0; latest < 2; latest++) {
            CueBoard x = merging();
            x.merge(0, 0, latest == 1);
            int[] greatest = {10, 90, 90, 90};
            int[] last = {10, 90, 60, 0};
            for (int p = 0; p < 4; p++) {
                x.go(p);
                x.tick(1);
                row(x, 0, latest == 1 ? last[p] : greatest[p]);
            }
            x.release(3);
            x.stop(0);
            x.tick(1);
            row(x, 0, latest == 1 ? 60 : 90);
            x.release(1);
            x.master(2, 50);
            x.tick(1);
            row(x, 0, latest == 1 ? 30 : 40);
            x.load(0, 0);
            x.go(0);
            x.tick(1);
            row(x, 0, 40);
        }
        sentence("==== 6", "0 without any");
        CueBoard x = one(MOVER, 0, 5);
        x.merge(0, 0, true);
        x.tick(1);
        row(x, 0, 0, 0, 0, 0, 0);
        send(x, 0, 0, 0, 65535, 0);
        x.tick(1);
        row(x, 0, 255, 255, 0, 0, 0);
        x.release(0);
        x.tick(1);
        row(x, 0, 0, 0, 0, 0, 0);
    }

    private static void grand() {
        sentence("==== 6", "DIMMING ones are times GRAND by 100, cut");
        CueBoard x = one(STROBE, 0, 2);
        send(x, 0, 0, 0, 255, 0);
        send(x, 1, 0, 1, 255, 0);
        int[] grand = {100, 99, 50, 1, 0};
        int[] level = {255, 252, 127, 2, 0};
        for (int i = 0; i < grand.length; i++) {
            x.master(NONE, grand[i]);
            x.tick(1);
            row(x, 0, level[i], 255);
        }
        // Each is cut by itself: 255 by half is 127, and that by half 63; 199 by 50 and 51 is 99 and 50.
        x.master(0, 50);
        x.master(NONE, 50);
        x.tick(1);
        row(x, 0, 63, 255);
        send(x, 2, 0, 0, 199, 0);
        x.master(NONE, 51);
        x.tick(1);
        row(x, 0, 50, 255);
    }

    private static void bentThenMost() {
        sentence("==== 6", "What has a CURVE is BENT");
        CueBoard x = one(SCREEN, 100, 3);
        x.point(0, 49, bits(255));
        x.point(0, 50, bits(40));
        x.bend(0, 0, 0);
        for (int c = 0; c < 3; c++) {
            x.entry(0, 0, c, 200 + c, 0);
        }
        x.list(0, 0, 0);
        x.go(0);
        x.master(NONE, 25);
        x.tick(1);
        row(x, 0, 40, 50, 50);
        sentence("==== 6", "DIMMING ones are at most MOST of the FIXTURE");
        x.master(NONE, 24);
        x.tick(1);
        row(x, 0, 200, 48, 48);
        x.master(NONE, 99);
        x.tick(1);
        row(x, 0, 40, 198, 199);
        x.master(NONE, 100);
        x.tick(1);
        row(x, 0, 40, 200, 200);
        int[] n = {45, 46, 0};
        int[] most = {255, 254, 255};
        for (int i = 0; i < n.length; i++) {
            CueBoard y = one(MOVER, n[i], 5);
            send(y, 0, 0, 2, 255, 0);
            send(y, 1, 0, 0, 65535, 0);
            y.tick(1);
            row(y, 0, 255, 255, 0, 0, most[i]);
        }
    }

    private static void heats() {
        sentence("==== 6", "each HEAT of the FIXTURE times its byte, by 255, cut");
        int[] value = {0, 12, 13, 254, 255};
        int[] dimmer = {0, 0, 1, 19, 20};
        int[] screen = {0, 6, 9, 177, 180};
        int[] mover = {0, 9, 10, 156, 156};
        for (int i = 0; i < value.length; i++) {
            due("a DIMMER of " + value[i], heatOf(DIMMER, 100, value[i]), dimmer[i]);
            due("a STROBE of " + value[i], heatOf(STROBE, 100, value[i]), dimmer[i]);
            due("a SCREEN of " + value[i], heatOf(SCREEN, 0, value[i]), screen[i]);
            due("a MOVER of " + value[i], heatOf(MOVER, 100, value[i]), mover[i]);
        }
    }

    private static int heatOf(int kind, int n, int value) {
        CueBoard x = one(kind, n, 5);
        for (int c = 0; c < 3; c++) {
            x.entry(0, 0, c, value, 0);
        }
        x.list(0, 0, 0);
        x.go(0);
        x.tick(1);
        return x.heat(0);
    }

    /** A FIXTURE of HEAT 60 (SCREEN) or 100 (MOVER) at full on a LINE of so many places. */
    private static CueBoard hot(int kind, int places) {
        CueBoard x = one(kind, 0, places);
        for (int c = 0; c < 3; c++) {
            x.entry(0, 0, c, 255, 0);
        }
        x.list(0, 0, 0);
        x.go(0);
        return x;
    }

    private static void wholes() {
        sentence("==== 6", "Then HEAT of each LINE by numbers, of CHANNELS of DIMMING that are WHOLE there (all their bytes lie on it;"
            + " PULLED LINES by the places that they keep; also of one whose byte another one has)");
        for (int places = 0; places <= 5; places++) {
            CueBoard x = hot(SCREEN, places);
            CueBoard y = hot(MOVER, places);
            for (int pulled = 0; pulled < 2; pulled++) {
                x.tick(1);
                y.tick(1);
                due("a SCREEN on " + places, x.heat(0), 60 * Math.min(places, 3));
                due("a MOVER on " + places, y.heat(0), places == 5 ? 100 : 0);
                x.pull(0);
                y.pull(0);
            }
        }
        CueBoard x = hot(SCREEN, 3);
        x.fixture(DIMMER, 0);
        x.patch(1, 0, 0);
        x.tick(1);
        row(x, 0, 0, 255, 255);
        due("of one whose byte another one has", x.heat(0), 180);
        x.patch(0, 3, 0);
        x.tick(1);
        due("on a line never told", x.heat(3), 0);
        due("on the line that it left", x.heat(0), 0);
        x.line(3, 64);
        x.patch(0, 3, 61);
        x.tick(1);
        due("at the last places of all", x.heat(3), 180);
        x.patch(0, 3, 63);
        x.tick(1);
        due("one at the last place of all", x.heat(3), 60);
    }

    private static final int[] HOT = {20, 60, 60, 60, 130, 20};
    private static final int[] LEVELS = {255, 255, 100, 13, 200, 128};
    private static final int[] BYTES = {0, 1, 2, 3, 8, 9};

    /** 0 DIMMER, 1 SCREEN, 2 MOVER of 30, 3 STROBE (FIRM), PATCHED in this order, with a LIMIT. */
    private static CueBoard limited(int limit) {
        CueBoard x = one(DIMMER, 0, 11);
        x.fixture(SCREEN, 9);
        x.fixture(MOVER, 30);
        x.fixture(STROBE, 50);
        x.patch(1, 0, 1);
        x.patch(2, 0, 4);
        x.patch(3, 0, 9);
        x.firm(3, true);
        int[][] channels = {{0, 0}, {1, 0}, {1, 1}, {1, 2}, {2, 2}, {3, 0}};
        for (int i = 0; i < channels.length; i++) {
            x.entry(0, channels[i][0], channels[i][1], LEVELS[i], 0);
        }
        x.list(0, 0, 0);
        x.go(0);
        x.limit(0, limit);
        x.tick(1);
        return x;
    }

    private static int together(int[] levels) {
        int all = 0;
        for (int i = 0; i < levels.length; i++) {
            all += HOT[i] * levels[i] / 255;
        }
        return all;
    }

    private static void cuts() {
        sentence("==== 6", "if they are together above its LIMIT: of FIXTURES that are not FIRM, the latest PATCHED first,"
            + " their CHANNELS from the last to the first: the byte becomes the greatest one not above what it is with which they are not,"
            + " or 0, till they are not above it");
        int most = together(LEVELS);
        due("all together", limited(1000000).heat(0), most);
        for (int limit = 0; limit <= most + 1; limit++) {
            int[] levels = LEVELS.clone();
            // All but the STROBE, the latest first: LEVEL of the MOVER, BLUE, GREEN, RED, the DIMMER.
            for (int i = 4; i >= 0; i--) {
                while (together(levels) > limit && levels[i] > 0) {
                    levels[i]--;
                }
            }
            CueBoard x = limited(limit);
            for (int i = 0; i < levels.length; i++) {
                due("at(0, " + BYTES[i] + ") by a limit of " + limit, x.at(0, BYTES[i]), levels[i]);
            }
            due("heat(0) by a limit of " + limit, x.heat(0), together(levels));
            due("over(0) by a limit of " + limit, x.over(0), together(levels) > limit ? 1 : 0);
        }
    }

    private static void cutsByOrder() {
        CueBoard x = limited(1000000);
        x.patch(0, 0, 0);
        x.limit(0, together(LEVELS) - 1);
        x.tick(1);
        due("PATCHED anew it is cut first", x.at(0, 0), 254);
        due("and nothing else", x.at(0, 8), 200);
        x.patch(1, 1, 0);
        x.tick(1);
        due("what is on another line leaves it cool", x.at(0, 0), 255);
        x.firm(3, false);
        x.patch(3, 0, 9);
        x.limit(0, 0);
        x.tick(1);
        due("not FIRM any more", x.at(0, 9), 0);
        due("the first one keeps what is no heat", x.at(0, 8), 1);
        // What is cold by itself becomes 0, too, while the others are above the LIMIT.
        CueBoard y = one(DIMMER, 0, 2);
        y.fixture(DIMMER, 0);
        y.patch(1, 0, 1);
        y.entry(0, 0, 0, 255, 0);
        y.entry(0, 1, 0, 12, 0);
        y.list(0, 0, 0);
        y.go(0);
        y.limit(0, 19);
        y.tick(1);
        row(y, 0, 254, 0);
        y.limit(0, 20);
        y.tick(1);
        row(y, 0, 255, 12);
        // Of each LINE by its own LIMIT.
        y.line(1, 1);
        y.patch(0, 1, 0);
        y.limit(1, 10);
        y.limit(0, 0);
        y.tick(1);
        due("by the limit of line 1", y.at(1, 0), 140);
        due("by the limit of line 0", y.at(0, 1), 12);
    }

    private static void cutsOfAll() {
        for (int limit : new int[] {0, 1, 19, 20, 21, 79, 80, 81, 1830, 3599, 3600, 3660, 3679, 3680}) {
            cutsOfAll(limit, false, false);
            cutsOfAll(limit, false, true);
            cutsOfAll(limit, true, false);
            cutsOfAll(limit, true, true);
        }
    }

    /**
     * 20 SCREENS and 4 DIMMERS at full take all 64 places of LINE 0. They are PATCHED by numbers or
     * the other way round, and every second one may be FIRM.
     */
    private static void cutsOfAll(int limit, boolean turned, boolean halfFirm) {
        CueBoard x = new CueBoard();
        x.line(0, 64);
        for (int f = 0; f < 24; f++) {
            x.fixture(f < 20 ? SCREEN : DIMMER, 0);
            x.firm(f, halfFirm && f % 2 == 0);
            for (int c = 0; c < (f < 20 ? 3 : 1); c++) {
                x.entry(f / 4, f, c, 255, 0);
            }
        }
        for (int i = 0; i < 24; i++) {
            int f = turned ? 23 - i : i;
            x.patch(f, 0, f < 20 ? 3 * f : 40 + f);
        }
        x.load(0, 0);
        for (int cue = 0; cue < 6; cue++) {
            x.list(0, cue, 0);
            x.go(0);
        }
        x.limit(0, limit);
        x.tick(1);
        int[] levels = new int[64];
        int all = cutAll(levels, limit, turned, halfFirm);
        row(x, 0, levels);
        due("heat(0) by a limit of " + limit, x.heat(0), all);
        due("over(0) by a limit of " + limit, x.over(0), all > limit ? 1 : 0);
    }

    private static int cutAll(int[] levels, int limit, boolean turned, boolean halfFirm) {
        int all = 20 * 180 + 4 * 20;
        for (int i = 0; i < 24; i++) {
            int f = turned ? i : 23 - i;
            int hot = f < 20 ? 60 : 20;
            for (int c = f < 20 ? 2 : 0; c >= 0; c--) {
                int p = (f < 20 ? 3 * f : 40 + f) + c;
                levels[p] = 255;
                while (!(halfFirm && f % 2 == 0) && levels[p] > 0 && all - hot + hot * levels[p] / 255 > limit) {
                    levels[p]--;
                }
                all += hot * levels[p] / 255 - hot;
            }
        }
        return all;
    }

    /** A MOVER, a STROBE and a SCREEN whose BLUE is beyond: PAN, TILT, RATE are never cut, and BLUE has no HEAT. */
    private static void cutsOfDimmingAlone() {
        for (int limit = 0; limit <= 240; limit += 10) {
            CueBoard x = one(MOVER, 0, 9);
            x.fixture(STROBE, 0);
            x.fixture(SCREEN, 0);
            x.patch(1, 0, 5);
            x.patch(2, 0, 7);
            x.entry(0, 0, 0, 65535, 0);
            x.entry(0, 0, 1, 65535, 0);
            x.entry(0, 0, 2, 255, 0);
            for (int c = 0; c < 3; c++) {
                x.entry(0, 1, c, 255, 0);
                x.entry(0, 2, c, 255, 0);
            }
            x.list(0, 0, 0);
            x.go(0);
            x.limit(0, limit);
            x.tick(1);
            int all = 240;
            int[] hot = {100, 20, 60, 60};
            int[] levels = {255, 255, 255, 255};
            for (int i = 3; i >= 0; i--) {
                while (levels[i] > 0 && all - hot[i] + hot[i] * levels[i] / 255 > limit) {
                    levels[i]--;
                }
                all += hot[i] * levels[i] / 255 - hot[i];
            }
            row(x, 0, 255, 255, 255, 255, levels[0], levels[1], 255, levels[2], levels[3]);
            due("heat(0) by a limit of " + limit, x.heat(0), all);
        }
    }

    private static void blackouts() {
        sentence("==== 6", "In a BLACKOUT all DIMMING ones are 0 then");
        CueBoard x = one(STROBE, 0, 8);
        x.fixture(MOVER, 0);
        x.patch(1, 0, 2);
        x.point(0, 0, bits(99));
        x.bend(0, 0, 0);
        x.entry(0, 0, 1, 255, 0);
        x.entry(0, 1, 0, 65535, 0);
        x.entry(0, 1, 2, 255, 0);
        x.list(0, 0, 0);
        x.go(0);
        x.tick(1);
        row(x, 0, 99, 255, 255, 255, 0, 0, 255, 0);
        x.blackout(true);
        row(x, 0, 99, 255, 255, 255, 0, 0, 255, 0);
        x.tick(1);
        row(x, 0, 0, 255, 255, 255, 0, 0, 0, 0);
        x.blackout(false);
        x.tick(1);
        row(x, 0, 99, 255, 255, 255, 0, 0, 255, 0);
    }

    private static void blackoutHeat() {
        sentence("==== 6", "(HEAT is reckoned of what goes to each CHANNEL; in a BLACKOUT as cut before it.)");
        CueBoard x = hot(SCREEN, 3);
        x.blackout(true);
        x.tick(1);
        row(x, 0, 0, 0, 0);
        due("heat(0) in a blackout", x.heat(0), 180);
        x.limit(0, 100);
        x.tick(1);
        due("heat(0) as cut", x.heat(0), 100);
        due("over(0)", x.over(0), 0);
        x.firm(0, true);
        x.tick(1);
        due("heat(0) of what is firm", x.heat(0), 180);
        due("over(0) in a blackout", x.over(0), 1);
        row(x, 0, 0, 0, 0);
    }

    private static void written() {
        sentence("==== 6", "Then of each PLUGGED LINE all places are 0, and the CHANNELS are written by the order of patching");
        CueBoard x = one(DIMMER, 0, 64);
        send(x, 0, 0, 0, 200, 0);
        x.tick(1);
        row(x, 0, 200, 0);
        x.patch(0, 0, 63);
        row(x, 0, 200, 0);
        x.tick(1);
        row(x, 0, 0, 0);
        due("at(0, 63)", x.at(0, 63), 200);
        x.fixture(DIMMER, 0);
        x.patch(1, 0, 63);
        x.tick(1);
        due("at(0, 63) of the later one, that has no value", x.at(0, 63), 0);
        x.patch(0, 0, 63);
        x.tick(1);
        due("at(0, 63) of the one patched anew", x.at(0, 63), 200);
        for (int l = 1; l < 5; l++) {
            x.line(l % 4, 64);
            x.patch(0, l % 4, 63);
            x.tick(1);
            due("at(" + (l - 1) + ", 63) when it is elsewhere", x.at(l - 1, 63), 0);
            due("at(" + l % 4 + ", 63)", x.at(l % 4, 63), 200);
        }
    }

    private static void beyond() {
        sentence("==== 6", "one that is not WHOLE finds BEYOND, and writes nothing");
        int[] found = {3, 3, 2, 2, 1, 0};
        for (int places = 0; places <= 5; places++) {
            CueBoard x = hot(MOVER, places);
            x.tick(1);
            due("found(2) of a MOVER on " + places, x.found(2), found[places]);
            for (int p = 0; p < places; p++) {
                // PAN and TILT are 255, so their high bytes are 0.
                boolean written = p == 4 || p % 2 == 1;
                due("at(0, " + p + ") of " + places, x.at(0, p), written ? 255 : 0);
            }
            due("found(1)", x.found(1), 0);
            x.tick(5);
            due("found(2) by six ticks", x.found(2), 6 * found[places]);
        }
        CueBoard x = hot(SCREEN, 64);
        x.patch(0, 0, 62);
        x.tick(1);
        due("found(2) of a SCREEN at 62 of 64", x.found(2), 1);
        due("at(0, 63)", x.at(0, 63), 255);
        CueBoard y = one(MOVER, 0, 2);
        send(y, 0, 0, 0, 65535, 0);
        y.patch(0, 0, 1);
        y.tick(1);
        // Half of PAN would lie on the LINE.
        row(y, 0, 0, 0);
    }

    private static void nothing() {
        sentence("==== 6", "one on a LINE that is PULLED, or was never told, finds NOTHING alone (each by CHANNELS)");
        int[] channels = {1, 2, 3, 3};
        for (int kind = 0; kind < 4; kind++) {
            CueBoard x = one(kind, 0, 1);
            x.patch(0, 1, 63);
            x.tick(2);
            due("never told", x.found(1), 2 * channels[kind]);
            x.line(1, 1);
            x.pull(1);
            x.tick(1);
            due("pulled", x.found(1), 3 * channels[kind]);
            due("nothing beyond", x.found(2), 0);
            x.plug(1);
            x.tick(1);
            due("plugged", x.found(1), 3 * channels[kind]);
            due("beyond now", x.found(2), channels[kind]);
            x.unpatch(0);
            x.pull(1);
            x.tick(1);
            due("not patched", x.found(1), 3 * channels[kind]);
        }
    }

    private static void acts() {
        sentence("==== 6", "Each TICK begins an ACT of each PLAYBACK, by numbers, each in the one before it;"
            + " ENTRIES and LEAVINGS of a PLAYBACK count these, and each go() that was not refused");
        CueBoard x = one(DIMMER, 0, 1);
        x.list(0, 0, 1);
        x.list(0, 0, 0);
        int[] due = {0, 0, 0, 0};
        counts(x, due);
        x.go(0);
        due[0]++;
        counts(x, due);
        x.go(1);
        x.go(4);
        counts(x, due);
        x.tick(5);
        for (int p = 0; p < 4; p++) {
            due[p] += 5;
        }
        counts(x, due);
        due("it followed", x.playback(0, PLACE), 1);
        x.go(0);
        x.tick(0);
        x.tick(6);
        counts(x, due);
        x.stop(0);
        x.release(0);
        counts(x, due);
        x.go(0);
        due[0]++;
        counts(x, due);
        counts(old(), 1998, 1998, 1998, 1998);
    }

    private static void counts(CueBoard x, int... due) {
        for (int p = 0; p < 4; p++) {
            due("ENTRIES of " + p, x.playback(p, ENTRIES), due[p]);
            due("LEAVINGS of " + p, x.playback(p, LEAVINGS), due[p]);
        }
    }

    private static void limit() {
        sentence("Promise 30", "LIMIT of a LINE (told or not) becomes n (0 .. 1000000): 1");
        CueBoard x = hot(SCREEN, 3);
        for (int l = 0; l < 4; l++) {
            due("limit(" + l + ", 1000000)", x.limit(l, 1000000), 1);
            due("limit(" + l + ", 0)", x.limit(l, 0), 1);
        }
        x.tick(1);
        row(x, 0, 4, 0, 0);
        x.line(3, 3);
        x.patch(0, 3, 0);
        x.tick(1);
        row(x, 3, 4, 0, 0);
        x.pull(3);
        due("limit(3, 60) of a pulled one", x.limit(3, 60), 1);
        x.tick(1);
        due("heat(3)", x.heat(3), 60);
        sentence("Promise 30", "BAD");
        for (int wrong : new int[] {-1, 4, LEAST, GREATEST}) {
            refused("limit(" + wrong + ", 5)", BAD, Edge::rich, y -> y.limit(wrong, 5));
        }
        for (int wrong : new int[] {-1, 1000001, LEAST, GREATEST}) {
            refused("limit(0, " + wrong + ")", BAD, Edge::rich, y -> y.limit(0, wrong));
            refused("limit(3, " + wrong + ")", BAD, Edge::rich, y -> y.limit(3, wrong));
        }
    }

    private static void heat() {
        sentence("Promise 31", "HEAT of a LINE behind the latest TICK (0 before); whether it is above its LIMIT then is told by over()");
        CueBoard x = hot(SCREEN, 3);
        for (int l = 0; l < 4; l++) {
            due("heat(" + l + ") before", x.heat(l), 0);
        }
        x.tick(1);
        due("heat(0)", x.heat(0), 180);
        due("heat(1)", x.heat(1), 0);
        x.release(0);
        x.unpatch(0);
        x.limit(0, 5);
        due("heat(0) till the next tick", x.heat(0), 180);
        due("over(0) till the next tick", x.over(0), 0);
        x.tick(1);
        due("heat(0) then", x.heat(0), 0);
        sentence("Promise 31", "BAD");
        for (int wrong : new int[] {-1, 4, LEAST, GREATEST}) {
            refused("heat(" + wrong + ")", BAD, Edge::rich, y -> y.heat(wrong));
        }
    }

    private static void over() {
        sentence("Promise 32", "Whether HEAT of a LINE was above its LIMIT behind the latest TICK, all that could be cut being cut: 1, 0");
        CueBoard x = hot(SCREEN, 3);
        x.firm(0, true);
        x.limit(0, 179);
        for (int l = 0; l < 4; l++) {
            due("over(" + l + ") before", x.over(l), 0);
        }
        int[] limit = {179, 180, 181, 0, 1000000};
        int[] due = {1, 0, 0, 1, 0};
        for (int i = 0; i < limit.length; i++) {
            x.limit(0, limit[i]);
            due("over(0) till the next tick", x.over(0), i == 0 ? 0 : due[i - 1]);
            x.tick(1);
            due("over(0) by a limit of " + limit[i], x.over(0), due[i]);
            due("over(1)", x.over(1), 0);
        }
        x.limit(0, 0);
        x.firm(0, false);
        x.tick(1);
        due("over(0) when all can be cut", x.over(0), 0);
        due("heat(0) of 0 is not above 0", x.heat(0), 0);
        sentence("Promise 32", "BAD");
        for (int wrong : new int[] {-1, 4, LEAST, GREATEST}) {
            refused("over(" + wrong + ")", BAD, Edge::rich, y -> y.over(wrong));
        }
    }

    private static void blackout() {
        sentence("Promise 33", "A BLACKOUT begins, or ends: what it was (1, 0)");
        CueBoard x = new CueBoard();
        due("blackout(false) without one", x.blackout(false), 0);
        due("blackout(true)", x.blackout(true), 0);
        due("told(3)", x.told(3), 1);
        due("blackout(true) again", x.blackout(true), 1);
        due("told(3)", x.told(3), 1);
        due("blackout(false)", x.blackout(false), 1);
        due("blackout(false) again", x.blackout(false), 0);
        due("told(3)", x.told(3), 0);
        due("all are in the book", x.told(2), 5);
    }

    private static void tick() {
        sentence("Promise 34", "n (1 .. 5) TICKS: how many went ever");
        CueBoard x = new CueBoard();
        int went = 0;
        for (int n = 1; n <= 5; n++) {
            went += n;
            due("tick(" + n + ")", x.tick(n), went);
        }
        sentence("Promise 34", "BAD");
        for (int wrong : new int[] {0, -1, 6, LEAST, GREATEST}) {
            refused("tick(" + wrong + ")", BAD, Edge::rich, y -> y.tick(wrong));
            refused("tick(" + wrong + ") behind 1998", BAD, Edge::old, y -> y.tick(wrong));
        }
        sentence("Promise 34", "FULL: above 2000");
        for (int n = 3; n <= 5; n++) {
            int each = n;
            refused("tick(" + each + ") behind 1998", FULL, Edge::old, y -> y.tick(each));
        }
        CueBoard y = old();
        due("tick(2) behind 1998", y.tick(2), 2000);
        due("tick(1) behind 2000", y.tick(1), FULL);
        due("tick(5) behind 2000", y.tick(5), FULL);
        due("tick(6) behind 2000", y.tick(6), BAD);
        due("told(1)", y.told(1), 2000);
        CueBoard z = old();
        due("tick(1) behind 1998", z.tick(1), 1999);
        due("tick(2) behind 1999", z.tick(2), FULL);
        due("tick(1) behind 1999", z.tick(1), 2000);
    }

    private static void found() {
        sentence("Promise 35", "FOUND of a FINDING (1 .. 6)");
        CueBoard x = new CueBoard();
        for (int finding = 1; finding <= 6; finding++) {
            due("found(" + finding + ") of a new board", x.found(finding), 0);
        }
        x.at(0, 0);
        x.line(0, -1);
        x.line(0, -1);
        due("found(1)", x.found(1), 1);
        due("found(5)", x.found(5), 2);
        due("found(6)", x.found(6), 0);
        x.at(4, 0);
        x.line(0, 65);
        x.pull(0);
        due("none of what is refused without one", x.found(1), 1);
        // As many as there can be: 216 of a GROUP, twelve times, in each of eight CUES.
        CueBoard y = new CueBoard();
        y.fixture(DIMMER, 0);
        for (int g = 1; g <= 3; g++) {
            y.group(0, 6);
            for (int i = 0; i < 6; i++) {
                y.member(g, i, g - 1);
            }
        }
        for (int i = 0; i < 12; i++) {
            y.entry(0, 3, 1, 0, 0);
        }
        y.load(0, 0);
        for (int i = 0; i < 8; i++) {
            y.list(0, 0, 0);
            y.go(0);
        }
        due("found(3)", y.found(3), 8 * 12 * 216);
        due("no fade began", y.playback(0, FADES), 0);
        sentence("Promise 35", "BAD");
        for (int wrong : new int[] {0, 7, -1, -11, LEAST, GREATEST}) {
            refused("found(" + wrong + ")", BAD, Edge::rich, z -> z.found(wrong));
        }
    }
}

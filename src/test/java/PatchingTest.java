/** Promises 14 to 16: patch, unpatch, firm; and how CHANNELS go to their LINES. */
public final class PatchingTest {
    private static final int BEYOND = -12, SORT = -13;
    private static final int DIMMER = 0, STROBE = 1, MOVER = 2, SCREEN = 3;

    public static void main(String[] args) {
        answers();
        layout();
        sharedBytes();
        beyond();
        pulled();
        unpatched();
        firm();
        Tally.end();
    }

    private static void answers() {
        CueBoard x = new CueBoard();
        x.fixture(DIMMER, 0);
        x.group(0, 0);
        Tally.due("no such f", x.patch(2, 0, 0), CueBoard.BAD);
        Tally.due("no such f", x.patch(-1, 0, 0), CueBoard.BAD);
        Tally.due("no such line", x.patch(0, 4, 0), CueBoard.BAD);
        Tally.due("no such line", x.patch(0, -1, 0), CueBoard.BAD);
        Tally.due("no such place", x.patch(0, 0, 64), CueBoard.BAD);
        Tally.due("no such place", x.patch(0, 0, -1), CueBoard.BAD);
        Tally.due("a GROUP at no place", x.patch(1, 0, 64), CueBoard.BAD);
        Tally.due("a GROUP", x.patch(1, 0, 0), SORT);
        Tally.due("found SORT", x.found(3), 1);
        Tally.due("not patched", x.about(0, 2), CueBoard.NONE);
        Tally.due("a line never told, last place", x.patch(0, 3, 63), 1);
        Tally.due("patched", x.about(0, 3), 63);
        Tally.due("unpatch", x.unpatch(0), 1);
        Tally.due("unpatch again", x.unpatch(0), CueBoard.NO);
        Tally.due("unpatch a GROUP", x.unpatch(1), CueBoard.NO);
        Tally.due("unpatch(2)", x.unpatch(2), CueBoard.BAD);
        Tally.due("unpatch(-1)", x.unpatch(-1), CueBoard.BAD);
        Tally.due("firm", x.firm(0, true), 1);
        Tally.due("firm again", x.firm(0, true), 1);
        Tally.due("firm a GROUP", x.firm(1, true), 1);
        Tally.due("it is", x.about(1, 4), 1);
        Tally.due("firm(2)", x.firm(2, true), CueBoard.BAD);
        Tally.due("firm(-1)", x.firm(-1, false), CueBoard.BAD);
        Tally.due("not firm", x.firm(0, false), 1);
        Tally.due("it is not", x.about(0, 4), 0);
        Tally.due("booked", x.told(2), 2 + 1 + 1 + 4);
    }

    /** Each FIXTURE has its number times ten plus the channel as the value of that CHANNEL, wide ones times 256. */
    private static CueBoard all() {
        CueBoard x = new CueBoard();
        int[] kinds = {DIMMER, STROBE, MOVER, SCREEN};
        for (int f = 0; f < 4; f++) {
            x.fixture(kinds[f], 10);
        }
        x.entry(0, 0, 0, 1, 0);
        x.entry(0, 1, 0, 11, 0);
        x.entry(0, 1, 1, 12, 0);
        x.entry(0, 2, 0, 21 * 256 + 22, 0);
        x.entry(0, 2, 1, 23 * 256 + 24, 0);
        x.entry(0, 2, 2, 25, 0);
        x.entry(0, 3, 0, 31, 0);
        x.entry(0, 3, 1, 32, 0);
        x.entry(0, 3, 2, 33, 0);
        x.list(0, 0, 0);
        x.load(0, 0);
        x.go(0);
        return x;
    }

    private static void row(CueBoard x, int l, int... due) {
        for (int p = 0; p < due.length; p++) {
            Tally.due("at(" + l + ", " + p + ")", x.at(l, p), due[p]);
        }
    }

    private static void layout() {
        CueBoard x = all();
        x.line(2, 12);
        x.patch(0, 2, 11);
        x.patch(1, 2, 0);
        x.patch(2, 2, 3);
        x.patch(3, 2, 8);
        x.tick(1);
        row(x, 2, 11, 12, 0, 21, 22, 23, 24, 25, 31, 32, 33, 1);
        Tally.due("pan", x.wide(2, 3), 21 * 256 + 22);
        Tally.due("nothing found", x.found(1) + x.found(2), 0);
    }

    private static void sharedBytes() {
        CueBoard x = all();
        x.line(0, 6);
        x.patch(0, 0, 2);
        x.patch(2, 0, 0);
        x.tick(1);
        row(x, 0, 21, 22, 23, 24, 25, 0);
        x.patch(1, 0, 1);
        x.tick(1);
        row(x, 0, 21, 11, 12, 24, 25, 0);
        x.patch(0, 0, 2);
        x.tick(1);
        row(x, 0, 21, 11, 1, 24, 25, 0);
        x.patch(2, 0, 1);
        x.tick(1);
        row(x, 0, 0, 21, 22, 23, 24, 25);
        x.unpatch(2);
        x.tick(1);
        row(x, 0, 0, 11, 1, 0, 0, 0);
    }

    private static void beyond() {
        CueBoard x = all();
        x.line(0, 4);
        x.patch(2, 0, 1);
        x.tick(1);
        // TILT has one byte only on the LINE, LEVEL none: neither is written.
        row(x, 0, 0, 21, 22, 0);
        Tally.due("found BEYOND", x.found(2), 2);
        wholeMovers();
        x.tick(2);
        Tally.due("found BEYOND by ticks", x.found(2), 6);
        Tally.due("cold", x.heat(0), 0);
        x.patch(3, 0, 63);
        x.tick(1);
        Tally.due("all three beyond", x.found(2), 6 + 2 + 3);
        x.line(0, 0);
        x.tick(1);
        Tally.due("on no places", x.found(2), 11 + 3 + 3);
        Tally.due("found NOTHING", x.found(1), 0);
    }

    /** A MOVER on LINES of 0 to 5 places: a CHANNEL is written whole or not at all. */
    private static void wholeMovers() {
        int[] whole = {21, 22, 23, 24, 25};
        int[] written = {0, 0, 2, 2, 4, 5};
        int[] beyond = {3, 3, 2, 2, 1, 0};
        for (int n = 0; n <= 5; n++) {
            CueBoard x = all();
            x.line(0, n);
            x.patch(2, 0, 0);
            x.tick(1);
            for (int p = 0; p < n; p++) {
                Tally.due("of " + n + " places, at " + p, x.at(0, p), p < written[n] ? whole[p] : 0);
            }
            Tally.due("beyond " + n, x.found(2), beyond[n]);
        }
    }

    private static void pulled() {
        CueBoard x = all();
        x.line(0, 2);
        x.patch(3, 0, 0);
        x.patch(1, 1, 60);
        x.tick(1);
        Tally.due("never told", x.found(1), 2);
        Tally.due("beyond", x.found(2), 1);
        x.pull(0);
        x.tick(1);
        Tally.due("pulled: NOTHING alone", x.found(1), 2 + 2 + 3);
        Tally.due("no BEYOND more", x.found(2), 1);
        x.plug(0);
        row(x, 0, 0, 0);
        x.tick(1);
        row(x, 0, 31, 32);
        Tally.due("beyond again", x.found(2), 2);
        Tally.due("at(0, 2)", x.at(0, 2), BEYOND);
    }

    private static void unpatched() {
        CueBoard x = all();
        x.line(0, 3);
        x.patch(3, 0, 0);
        x.tick(1);
        row(x, 0, 31, 32, 33);
        x.unpatch(3);
        row(x, 0, 31, 32, 33);
        x.tick(1);
        row(x, 0, 0, 0, 0);
        Tally.due("no heat", x.heat(0), 0);
        Tally.due("the value stays", x.value(0, 3, 2), 33);
    }

    private static void firm() {
        CueBoard x = all();
        x.line(0, 3);
        x.patch(3, 0, 0);
        x.limit(0, 0);
        x.firm(3, true);
        x.tick(1);
        row(x, 0, 31, 32, 33);
        Tally.due("over", x.over(0), 1);
        x.firm(3, false);
        x.tick(1);
        Tally.due("not over", x.over(0), 0);
        // 60 * 4 / 255 is 0, 60 * 5 / 255 is 1.
        row(x, 0, 4, 0, 0);
    }
}

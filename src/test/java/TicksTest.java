/** Promises 30 to 35: limit, heat, over, blackout, tick, found. */
public final class TicksTest {
    private static final int DIMMER = 0, STROBE = 1, MOVER = 2, SCREEN = 3;

    public static void main(String[] args) {
        limitAnswers();
        heatAnswers();
        heats();
        heatOfWhatIsThere();
        most();
        cuts();
        cutsByPatching();
        cutsToNothing();
        limitsByLines();
        blackout();
        ticks();
        found();
        Tally.end();
    }

    private static void limitAnswers() {
        CueBoard x = new CueBoard();
        Tally.due("limit(-1, 5)", x.limit(-1, 5), CueBoard.BAD);
        Tally.due("limit(4, 5)", x.limit(4, 5), CueBoard.BAD);
        Tally.due("limit(0, -1)", x.limit(0, -1), CueBoard.BAD);
        Tally.due("limit(0, 1000001)", x.limit(0, 1000001), CueBoard.BAD);
        Tally.due("limit(0, 0)", x.limit(0, 0), 1);
        Tally.due("limit(3, 1000000)", x.limit(3, 1000000), 1);
        Tally.due("booked", x.told(2), 2);
    }

    private static void heatAnswers() {
        CueBoard x = new CueBoard();
        Tally.due("heat(-1)", x.heat(-1), CueBoard.BAD);
        Tally.due("heat(4)", x.heat(4), CueBoard.BAD);
        Tally.due("over(-1)", x.over(-1), CueBoard.BAD);
        Tally.due("over(4)", x.over(4), CueBoard.BAD);
        Tally.due("heat(3)", x.heat(3), 0);
        Tally.due("over(3)", x.over(3), 0);
        x.limit(0, 0);
        x.tick(1);
        Tally.due("0 is not above 0", x.over(0), 0);
    }

    /** Each FIXTURE has 64 places of its own on LINE 0 or 1; all its CHANNELS get the value. */
    private static CueBoard lit(int value, int... kindsAndNumbers) {
        CueBoard x = new CueBoard();
        x.line(0, 64);
        for (int i = 0; i < kindsAndNumbers.length; i += 2) {
            int f = x.fixture(kindsAndNumbers[i], kindsAndNumbers[i + 1]);
            x.patch(f, 0, 5 * f);
            for (int c = 0; c < 3; c++) {
                x.entry(f / 4, f, c, value, 0);
            }
        }
        for (int cue = 0; cue <= (kindsAndNumbers.length / 2 - 1) / 4; cue++) {
            x.list(0, cue, 0);
        }
        x.load(0, 0);
        for (int cue = 0; cue <= (kindsAndNumbers.length / 2 - 1) / 4; cue++) {
            x.go(0);
        }
        return x;
    }

    private static void heats() {
        CueBoard x = lit(100, DIMMER, 0);
        Tally.due("before a tick", x.heat(0), 0);
        x.tick(1);
        Tally.due("a DIMMER of 100", x.heat(0), 20 * 100 / 255);
        x = lit(100, STROBE, 50);
        x.tick(1);
        Tally.due("a STROBE of 100, but not its rate", x.heat(0), 20 * 100 / 255);
        x = lit(100, MOVER, 44);
        x.tick(1);
        Tally.due("a MOVER of 100", x.heat(0), 144 * 100 / 255);
        x = lit(100, SCREEN, 9);
        x.tick(1);
        Tally.due("a SCREEN of 100, each colour cut", x.heat(0), 3 * (60 * 100 / 255));
        x = lit(100, DIMMER, 0, STROBE, 50, MOVER, 44, SCREEN, 9);
        x.tick(1);
        Tally.due("together", x.heat(0), 7 + 7 + 56 + 69);
        x.master(CueBoard.NONE, 50);
        Tally.due("till the next tick", x.heat(0), 139);
        x.tick(1);
        Tally.due("dimmed", x.heat(0), 3 + 3 + 28 + 33);
        x.unpatch(2);
        x.tick(1);
        Tally.due("what is patched", x.heat(0), 3 + 3 + 33);
    }

    private static void heatOfWhatIsThere() {
        CueBoard x = lit(255, SCREEN, 0, DIMMER, 0);
        x.patch(0, 0, 62);
        x.tick(1);
        Tally.due("two of three colours", x.heat(0), 60 + 60 + 20);
        x.patch(1, 0, 62);
        x.tick(1);
        Tally.due("also of one whose byte another has", x.heat(0), 60 + 60 + 20);
        Tally.due("the byte is the other's", x.at(0, 62), 255);
        x.pull(0);
        x.tick(1);
        Tally.due("of a pulled line", x.heat(0), 140);
        x.limit(0, 30);
        x.tick(1);
        Tally.due("cut on a pulled line", x.heat(0), 30);
        x.patch(1, 2, 0);
        x.tick(1);
        Tally.due("on a line never told", x.heat(2), 0);
        x.line(2, 1);
        x.tick(1);
        Tally.due("on a line that is told", x.heat(2), 20);
        x.line(2, 0);
        Tally.due("told anew, till the next tick", x.heat(2), 20);
        x.tick(1);
        Tally.due("on no places", x.heat(2), 0);
    }

    private static void most() {
        CueBoard x = lit(255, MOVER, 45, MOVER, 46, MOVER, 100, SCREEN, 90, DIMMER, 100, STROBE, 100);
        x.tick(1);
        int[][] due = {{4, 255}, {9, 254}, {14, 200}, {15, 210}, {16, 210}, {17, 210}, {20, 255}, {25, 255}, {26, 255}};
        for (int[] d : due) {
            Tally.due("most at " + d[0], x.at(0, d[0]), d[1]);
        }
        Tally.due("pan is not cut", x.wide(0, 10), 255);
        Tally.due("heat of what is cut", x.heat(0), 145 + 146 * 254 / 255 + 200 * 200 / 255 + 3 * (60 * 210 / 255) + 20 + 20);
    }

    private static void row(CueBoard x, int from, int... due) {
        for (int i = 0; i < due.length; i++) {
            Tally.due("at " + (from + i), x.at(0, from + i), due[i]);
        }
    }

    private static void cuts() {
        CueBoard x = lit(200, SCREEN, 0);
        x.tick(1);
        Tally.due("whole", x.heat(0), 3 * 47);
        x.limit(0, 141);
        x.tick(1);
        row(x, 0, 200, 200, 200);
        Tally.due("not above", x.over(0), 0);
        x.limit(0, 140);
        x.tick(1);
        // 60 * 199 / 255 is 46, and so are 198 .. 196.
        row(x, 0, 200, 200, 199);
        Tally.due("cut", x.heat(0), 140);
        x.limit(0, 60);
        x.tick(1);
        // 60 * 59 / 255 is 13, 60 * 60 / 255 is 14.
        row(x, 0, 200, 59, 0);
        Tally.due("cut more", x.heat(0), 60);
        Tally.due("not over", x.over(0), 0);
        x.limit(0, 1000);
        Tally.due("told by the latest tick", x.heat(0), 60);
        x.tick(1);
        row(x, 0, 200, 200, 200);
        Tally.due("the value is as it was", x.value(0, 0, 2), 200);
    }

    private static void cutsByPatching() {
        CueBoard x = lit(255, DIMMER, 0, DIMMER, 0, DIMMER, 0, DIMMER, 0);
        x.patch(1, 0, 5);
        x.firm(3, true);
        x.limit(0, 50);
        x.tick(1);
        // The order is 0, 2, 3 (firm), 1: of 80 the latest gives 20, number 2 gives 10.
        row(x, 0, 255);
        row(x, 5, 0);
        row(x, 10, 140);
        row(x, 15, 255);
        Tally.due("heat", x.heat(0), 50);
        x.limit(0, 19);
        x.tick(1);
        row(x, 0, 0);
        row(x, 5, 0);
        row(x, 10, 0);
        row(x, 15, 255);
        Tally.due("what is firm stays", x.heat(0), 20);
        Tally.due("over", x.over(0), 1);
        x.limit(0, 1000);
        Tally.due("over till the next tick", x.over(0), 1);
        x.tick(1);
        Tally.due("not over any more", x.over(0), 0);
    }

    /** What gives no heat by itself is cut to 0 as well while the others are above the LIMIT. */
    private static void cutsToNothing() {
        CueBoard x = lit(12, DIMMER, 0, MOVER, 100);
        x.patch(0, 0, 0);
        x.tick(1);
        Tally.due("a DIMMER of 12 is cold", x.heat(0), 200 * 12 / 255);
        x.limit(0, 8);
        x.tick(1);
        row(x, 0, 0);
        row(x, 9, 11);
        Tally.due("heat", x.heat(0), 8);
        Tally.due("the rest is not cut", x.wide(0, 5), 12);
        CueBoard y = lit(255, STROBE, 0);
        y.limit(0, 0);
        y.tick(1);
        row(y, 0, 12, 255);
    }

    private static void limitsByLines() {
        CueBoard x = lit(255, DIMMER, 0, DIMMER, 0);
        x.line(1, 1);
        x.patch(1, 1, 0);
        x.limit(1, 10);
        x.tick(1);
        Tally.due("of the first", x.heat(0), 20);
        Tally.due("of the second", x.heat(1), 10);
        Tally.due("the first's byte", x.at(0, 0), 255);
        Tally.due("the second's byte", x.at(1, 0), 140);
    }

    private static void blackout() {
        CueBoard x = lit(200, DIMMER, 0, STROBE, 0, MOVER, 0, SCREEN, 0);
        Tally.due("begins", x.blackout(true), 0);
        Tally.due("goes on", x.blackout(true), 1);
        Tally.due("told", x.told(3), 1);
        x.tick(1);
        row(x, 0, 0);
        row(x, 5, 0, 200);
        row(x, 10, 0, 200, 0, 200, 0);
        row(x, 15, 0, 0, 0);
        Tally.due("heat as before it", x.heat(0), 15 + 15 + 78 + 3 * 47);
        x.limit(0, 100);
        x.tick(1);
        Tally.due("heat as cut before it", x.heat(0), 100);
        Tally.due("not over", x.over(0), 0);
        Tally.due("ends", x.blackout(false), 1);
        Tally.due("ended", x.blackout(false), 0);
        Tally.due("told", x.told(3), 0);
        row(x, 0, 0);
        x.tick(1);
        row(x, 0, 200);
        // The STROBE and the DIMMER leave 70 of 100: 100 * 181 / 255 is 70, 100 * 182 / 255 is 71.
        row(x, 14, 181, 0, 0, 0);
    }

    private static void ticks() {
        CueBoard x = new CueBoard();
        Tally.due("tick(0)", x.tick(0), CueBoard.BAD);
        Tally.due("tick(-1)", x.tick(-1), CueBoard.BAD);
        Tally.due("tick(6)", x.tick(6), CueBoard.BAD);
        int went = 0;
        for (int n = 1; n <= 5; n++) {
            went += n;
            Tally.due("tick(" + n + ")", x.tick(n), went);
        }
        while (went < 1995) {
            went += 5;
            Tally.due("tick(5)", x.tick(5), went);
        }
        x.tick(3);
        Tally.due("above 2000", x.tick(3), CueBoard.FULL);
        Tally.due("a wrong one", x.tick(6), CueBoard.BAD);
        Tally.due("told", x.told(1), 1998);
        Tally.due("up to 2000", x.tick(2), 2000);
        Tally.due("one more", x.tick(1), CueBoard.FULL);
        Tally.due("told", x.told(1), 2000);
        Tally.due("entries", x.playback(2, 4), 2000);
    }

    private static void found() {
        CueBoard x = new CueBoard();
        Tally.due("found(0)", x.found(0), CueBoard.BAD);
        Tally.due("found(7)", x.found(7), CueBoard.BAD);
        Tally.due("found(-1)", x.found(-1), CueBoard.BAD);
        x.line(0, 1);
        x.fixture(SCREEN, 0);
        x.group(1, 1);
        x.at(1, 0);
        x.wide(0, 0);
        x.at(0, 1);
        x.asks(1, 1);
        x.value(0, 1, 0);
        x.memberAt(0, 0);
        x.asks(0, 2);
        x.line(0, -1);
        x.group(0, -5);
        x.member(1, 0, 0);
        x.member(1, 1, 0);
        int[] due = {1, 3, 3, 1, 2, 1};
        for (int i = 0; i < due.length; i++) {
            Tally.due("found(" + (i + 1) + ")", x.found(i + 1), due[i]);
        }
        x.patch(0, 0, 0);
        x.entry(0, 1, 0, 0, 0);
        x.entry(0, 0, 0, 0, 0);
        x.list(0, 0, 0);
        x.load(0, 0);
        x.member(1, 0, CueBoard.NONE);
        x.go(0);
        x.tick(2);
        Tally.due("two colours beyond in two ticks", x.found(2), 3 + 4);
        x.pull(0);
        x.tick(1);
        Tally.due("three on a pulled line", x.found(1), 1 + 3);
        Tally.due("no SORT more", x.found(3), 3);
        Tally.due("no finding for BAD", x.at(9, 9), CueBoard.BAD);
        Tally.due("nothing counts itself", x.found(1), 4);
    }
}

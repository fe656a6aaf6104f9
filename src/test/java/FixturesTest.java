/** Promises 7 to 13: fixture, group, member, memberAt, asks, trace, about. */
public final class FixturesTest {
    private static final int BEYOND = -12, SORT = -13, NOUGHT = -14, FEWER = -15, STORE = -16;
    private static final int DIMMER = 0, STROBE = 1, MOVER = 2, SCREEN = 3;

    public static void main(String[] args) {
        fixtures();
        groups();
        members();
        membersWrong();
        memberOrder();
        asks();
        asksOfGroups();
        asksWrong();
        traceStays();
        about();
        Tally.end();
    }

    private static void fixtures() {
        CueBoard x = new CueBoard();
        Tally.due("fixture(-1, 0)", x.fixture(-1, 0), CueBoard.BAD);
        Tally.due("fixture(4, 0)", x.fixture(4, 0), CueBoard.BAD);
        Tally.due("fixture(0, -1)", x.fixture(0, -1), CueBoard.BAD);
        Tally.due("fixture(0, 101)", x.fixture(0, 101), CueBoard.BAD);
        Tally.due("told(0)", x.told(0), 0);
        for (int f = 0; f < 24; f++) {
            Tally.due("fixture", x.fixture(f % 4, f == 0 ? 100 : f), f);
        }
        Tally.due("told(0)", x.told(0), 24);
        Tally.due("a 25th", x.fixture(0, 0), CueBoard.FULL);
        Tally.due("a wrong 25th", x.fixture(0, 101), CueBoard.BAD);
        Tally.due("a 25th group", x.group(0, 0), CueBoard.FULL);
        Tally.due("a group of fewer: FULL first", x.group(0, -1), CueBoard.FULL);
        Tally.due("no finding", x.found(5), 0);
        Tally.due("booked", x.told(2), 24);
        groupsAsTheLast();
    }

    private static void groupsAsTheLast() {
        CueBoard x = new CueBoard();
        for (int f = 0; f < 21; f++) {
            x.fixture(MOVER, 0);
        }
        for (int g = 21; g < 24; g++) {
            Tally.due("group", x.group(0, 6), g);
            Tally.due("its last place", x.member(g, 5, g - 1), 1);
        }
        Tally.due("member", x.memberAt(23, 0), 20);
        Tally.due("no more", x.memberAt(23, 1), CueBoard.NONE);
    }

    private static void groups() {
        CueBoard x = new CueBoard();
        Tally.due("group(-1, 0)", x.group(-1, 0), CueBoard.BAD);
        Tally.due("group(3, 0)", x.group(3, 0), CueBoard.BAD);
        Tally.due("group(0, 7)", x.group(0, 7), CueBoard.BAD);
        Tally.due("group(3, -1)", x.group(3, -1), CueBoard.BAD);
        Tally.due("group(0, -1)", x.group(0, -1), FEWER);
        Tally.due("found FEWER", x.found(5), 1);
        x.fixture(DIMMER, 0);
        Tally.due("group(2, 0)", x.group(2, 0), 1);
        Tally.due("group(0, 6)", x.group(0, 6), 2);
        Tally.due("group(1, 1)", x.group(1, 1), 3);
        Tally.due("a fourth", x.group(0, 1), CueBoard.FULL);
        Tally.due("a fourth of fewer", x.group(0, -1), CueBoard.FULL);
        Tally.due("a wrong fourth", x.group(0, 7), CueBoard.BAD);
        Tally.due("a fixture comes behind", x.fixture(DIMMER, 0), 4);
        Tally.due("told(0)", x.told(0), 5);
    }

    /** 0 DIMMER, 1 STROBE, 2 MOVER, 3 SCREEN, 4 for DIMMERS, 5 for what MOVES, 6 for all, 7 DIMMER. */
    private static CueBoard mixed() {
        CueBoard x = new CueBoard();
        x.fixture(DIMMER, 0);
        x.fixture(STROBE, 5);
        x.fixture(MOVER, 70);
        x.fixture(SCREEN, 7);
        x.group(1, 3);
        x.group(2, 2);
        x.group(0, 6);
        x.fixture(DIMMER, 9);
        return x;
    }

    private static void members() {
        CueBoard x = mixed();
        Tally.due("a DIMMER for DIMMERS", x.member(4, 0, 0), 1);
        Tally.due("a STROBE for DIMMERS", x.member(4, 1, 1), 1);
        Tally.due("a MOVER for DIMMERS", x.member(4, 2, 2), STORE);
        Tally.due("a SCREEN for DIMMERS", x.member(4, 2, 3), STORE);
        Tally.due("a DIMMER for what moves", x.member(5, 0, 0), STORE);
        Tally.due("a STROBE for what moves", x.member(5, 0, 1), STORE);
        Tally.due("a MOVER for what moves", x.member(5, 0, 2), 1);
        Tally.due("a SCREEN for what moves", x.member(5, 1, 3), 1);
        Tally.due("a GROUP for what moves", x.member(5, 0, 4), STORE);
        for (int i = 0; i < 6; i++) {
            Tally.due("anything for all", x.member(6, i, i), 1);
        }
        Tally.due("found STORE", x.found(6), 5);
        Tally.due("none", x.member(4, 0, CueBoard.NONE), 1);
        Tally.due("first now", x.memberAt(4, 0), 1);
        Tally.due("no second", x.memberAt(4, 1), CueBoard.NONE);
        CueBoard y = new CueBoard();
        y.group(1, 1);
        y.group(1, 1);
        Tally.due("a GROUP for DIMMERS", y.member(1, 0, 0), STORE);
    }

    private static void membersWrong() {
        CueBoard x = mixed();
        Tally.due("no such g", x.member(8, 0, 0), CueBoard.BAD);
        Tally.due("no such g", x.member(-1, 0, 0), CueBoard.BAD);
        Tally.due("no such f", x.member(4, 0, 8), CueBoard.BAD);
        Tally.due("no such f", x.member(4, 0, -2), CueBoard.BAD);
        Tally.due("f is g", x.member(6, 0, 6), CueBoard.BAD);
        Tally.due("f behind g", x.member(6, 0, 7), CueBoard.BAD);
        Tally.due("f behind g, which is no GROUP", x.member(0, 0, 1), CueBoard.BAD);
        Tally.due("g is no GROUP", x.member(3, 9, 0), SORT);
        Tally.due("g is no GROUP, none", x.member(0, 0, CueBoard.NONE), SORT);
        Tally.due("beyond", x.member(4, 3, 0), BEYOND);
        Tally.due("beyond, none", x.member(4, 3, CueBoard.NONE), BEYOND);
        Tally.due("beyond below", x.member(4, -1, 0), BEYOND);
        Tally.due("beyond ahead of STORE", x.member(4, 3, 2), BEYOND);
        Tally.due("STORE", x.member(4, 0, 2), STORE);
        Tally.due("found SORT", x.found(3), 2);
        Tally.due("found BEYOND", x.found(2), 4);
        Tally.due("found STORE", x.found(6), 1);
        Tally.due("nothing changed", x.memberAt(4, 0), CueBoard.NONE);
        Tally.due("booked", x.told(2), 8);
    }

    private static void memberOrder() {
        CueBoard x = mixed();
        x.member(4, 0, 1);
        x.member(4, 2, 0);
        x.member(5, 1, 3);
        x.member(6, 0, 2);
        x.member(6, 1, 4);
        x.member(6, 3, 5);
        x.member(6, 5, 4);
        int[] due = {2, 1, 0, 3, 1, 0, CueBoard.NONE, CueBoard.NONE};
        for (int k = 0; k < due.length; k++) {
            Tally.due("memberAt(6, " + k + ")", x.memberAt(6, k), due[k]);
        }
        Tally.due("memberAt(6, -1)", x.memberAt(6, -1), CueBoard.NONE);
        Tally.due("memberAt(6, most)", x.memberAt(6, Integer.MAX_VALUE), CueBoard.NONE);
        Tally.due("memberAt(8, 0)", x.memberAt(8, 0), CueBoard.BAD);
        Tally.due("memberAt(-1, 0)", x.memberAt(-1, 0), CueBoard.BAD);
        Tally.due("memberAt(0, 0)", x.memberAt(0, 0), SORT);
        Tally.due("memberAt(7, 5)", x.memberAt(7, 5), SORT);
        Tally.due("found SORT", x.found(3), 2);
        x.member(4, 1, 0);
        Tally.due("as the inner one is now", x.memberAt(6, 2), 0);
        Tally.due("and behind it", x.memberAt(6, 4), 3);
    }

    private static void ask(CueBoard x, int f, int ask, int due, int... trace) {
        Tally.due("asks(" + f + ", " + ask + ")", x.asks(f, ask), due);
        for (int i = 0; i < trace.length; i++) {
            Tally.due("trace(" + i + ") of asks(" + f + ", " + ask + ")", x.trace(i), trace[i]);
        }
        Tally.due("end of trace of asks(" + f + ", " + ask + ")", x.trace(trace.length), CueBoard.NONE);
        Tally.due("trace(-1)", x.trace(-1), CueBoard.NONE);
    }

    private static void asks() {
        CueBoard x = mixed();
        x.fixture(SCREEN, 0);
        x.fixture(MOVER, 45);
        x.fixture(MOVER, 46);
        x.fixture(SCREEN, 100);
        x.fixture(MOVER, 0);
        ask(x, 0, 0, 1, 1);
        ask(x, 0, 1, 20, 10, 1);
        ask(x, 0, 2, SORT);
        ask(x, 0, 3, 255, 30);
        ask(x, 1, 0, 2, 2, 1);
        ask(x, 1, 1, 20, 11, 10, 2, 1);
        ask(x, 1, 2, SORT);
        ask(x, 1, 3, 255, 30);
        ask(x, 2, 0, 5, 3);
        ask(x, 2, 1, 170, 12, 10, 3);
        ask(x, 2, 2, 360, 20);
        ask(x, 2, 3, 230, 32, 30, 31);
        ask(x, 3, 0, 3, 4);
        ask(x, 3, 1, 60, 10, 4);
        ask(x, 3, 2, 51, 21, 20);
        ask(x, 3, 3, 255, 33, 30, 31);
        ask(x, 8, 2, NOUGHT, 21, 20);
        ask(x, 9, 3, 255, 32, 30, 31);
        ask(x, 10, 3, 254, 32, 30, 31);
        ask(x, 11, 3, 200, 33, 30, 31);
        ask(x, 11, 2, 3, 21, 20);
        ask(x, 12, 1, 100, 12, 10, 3);
        Tally.due("found SORT", x.found(3), 2);
        Tally.due("found NOUGHT", x.found(4), 1);
        Tally.due("an ask is not booked", x.told(2), 13);
    }

    private static void asksOfGroups() {
        CueBoard x = mixed();
        ask(x, 6, 0, 0, 5);
        x.member(4, 0, 1);
        x.member(4, 2, 0);
        x.member(5, 1, 3);
        x.member(6, 0, 2);
        x.member(6, 2, 4);
        x.member(6, 3, 5);
        x.member(6, 5, 4);
        ask(x, 6, 0, 5 + 3 + 3 + 3, 5, 3, 5, 2, 1, 1, 5, 4, 5, 2, 1, 1);
        ask(x, 6, 1, SORT);
        ask(x, 6, 2, SORT);
        ask(x, 6, 3, SORT);
        ask(x, 5, 2, SORT);
        longestTrace();
    }

    /** Six of six of six STROBES: the longest TRACE that there is. */
    private static void longestTrace() {
        CueBoard x = new CueBoard();
        x.fixture(STROBE, 0);
        for (int g = 1; g <= 3; g++) {
            x.group(0, 6);
            for (int i = 0; i < 6; i++) {
                x.member(g, i, g - 1);
            }
        }
        Tally.due("span", x.asks(3, 0), 432);
        Tally.due("first", x.trace(0), 5);
        Tally.due("last but one", x.trace(473), 2);
        Tally.due("last", x.trace(474), 1);
        Tally.due("behind it", x.trace(475), CueBoard.NONE);
        Tally.due("last member", x.memberAt(3, 215), 0);
        Tally.due("behind it", x.memberAt(3, 216), CueBoard.NONE);
    }

    private static void asksWrong() {
        CueBoard x = mixed();
        Tally.due("asks(-1, 0)", x.asks(-1, 0), CueBoard.BAD);
        Tally.due("asks(8, 0)", x.asks(8, 0), CueBoard.BAD);
        Tally.due("asks(0, -1)", x.asks(0, -1), CueBoard.BAD);
        Tally.due("asks(0, 4)", x.asks(0, 4), CueBoard.BAD);
        Tally.due("asks(6, 4)", x.asks(6, 4), CueBoard.BAD);
    }

    private static void traceStays() {
        CueBoard x = mixed();
        x.line(0, 9);
        x.patch(1, 0, 0);
        x.asks(1, 1);
        x.asks(0, 4);
        x.asks(8, 0);
        x.fixture(SCREEN, 3);
        x.tick(3);
        x.replay();
        int[] due = {11, 10, 2, 1, CueBoard.NONE};
        for (int i = 0; i < due.length; i++) {
            Tally.due("the trace of before", x.trace(i), due[i]);
        }
        x.back(0);
        Tally.due("empty behind back()", x.trace(0), CueBoard.NONE);
        x.asks(1, 1);
        x.asks(1, 2);
        Tally.due("empty behind SORT", x.trace(0), CueBoard.NONE);
    }

    private static void about() {
        CueBoard x = mixed();
        int[] kinds = {0, 1, 2, 3, 4, 4, 4, 0};
        int[] numbers = {0, 5, 70, 7, 1, 2, 0, 9};
        for (int f = 0; f < 8; f++) {
            Tally.due("kind of " + f, x.about(f, 0), kinds[f]);
            Tally.due("n of " + f, x.about(f, 1), numbers[f]);
            Tally.due("line of " + f, x.about(f, 2), CueBoard.NONE);
            Tally.due("place of " + f, x.about(f, 3), CueBoard.NONE);
            Tally.due("firm of " + f, x.about(f, 4), 0);
        }
        x.patch(2, 3, 63);
        x.firm(2, true);
        Tally.due("line", x.about(2, 2), 3);
        Tally.due("place", x.about(2, 3), 63);
        Tally.due("firm", x.about(2, 4), 1);
        x.unpatch(2);
        Tally.due("no line", x.about(2, 2), CueBoard.NONE);
        Tally.due("no place", x.about(2, 3), CueBoard.NONE);
        Tally.due("still firm", x.about(2, 4), 1);
        Tally.due("about(-1, 0)", x.about(-1, 0), CueBoard.BAD);
        Tally.due("about(8, 0)", x.about(8, 0), CueBoard.BAD);
        Tally.due("about(0, -1)", x.about(0, -1), CueBoard.BAD);
        Tally.due("about(0, 5)", x.about(0, 5), CueBoard.BAD);
    }
}

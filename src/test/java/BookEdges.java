/** The edges that the document names in ==== 7 and the promises 36 to 39, and the last call of an object. */
final class BookEdges extends Edge {
    private BookEdges() {
    }

    static void run() {
        acts();
        actsOnly();
        first120();
        playedAgain();
        goesBack();
        goesBackFromEach();
        goesBackFromWhatStays();
        outOfTheBook();
        moreThanTheBook();
        digests();
        digest();
        replay();
        back();
        told();
        lastCall();
    }

    private static void booked(String call, Call act) {
        CueBoard x = rich();
        int before = x.told(2);
        due(call + " acts", act.on(x) >= 0 ? 1 : 0, 1);
        due("calls in the book behind " + call, x.told(2), before + 1);
    }

    /** Each name twice: where something changes, and where all stays as it was. */
    private static void acts() {
        sentence("==== 7", "calls that act (all, also where all stays as it was, that answered what is not below 0 of line, pull, plug, fixture,"
            + " group, member, patch, unpatch, firm, point, bend, entry, list, load, go, stop, release, master, merge, limit, blackout, tick)");
        booked("line(3, 5)", x -> x.line(3, 5));
        booked("pull(0)", x -> x.pull(0));
        booked("plug(2)", x -> x.plug(2));
        booked("fixture(0, 0)", x -> x.fixture(DIMMER, 0));
        booked("group(0, 0)", x -> x.group(0, 0));
        booked("member(5, 2, 0)", x -> x.member(5, 2, 0));
        booked("member(4, 0, 0) as it was", x -> x.member(4, 0, 0));
        booked("member(4, 1, NONE) as it was", x -> x.member(4, 1, NONE));
        booked("patch(0, 1, 1)", x -> x.patch(0, 1, 1));
        booked("patch(6, 2, 0) as it was", x -> x.patch(6, 2, 0));
        booked("unpatch(0)", x -> x.unpatch(0));
        booked("firm(0, true)", x -> x.firm(0, true));
        booked("firm(0, false) as it was", x -> x.firm(0, false));
        booked("point(3, 0, 0)", x -> x.point(3, 0, 0));
        booked("bend(0, 0, 1)", x -> x.bend(0, 0, 1));
        booked("bend(0, 0, 0) as it was", x -> x.bend(0, 0, 0));
        booked("entry(15, 0, 0, 0, 0)", x -> x.entry(15, 0, 0, 0, 0));
        booked("list(3, 0, 0)", x -> x.list(3, 0, 0));
        booked("load(3, 0)", x -> x.load(3, 0));
        booked("load(3, NONE) as it was", x -> x.load(3, NONE));
        booked("go(0)", x -> x.go(0));
        booked("stop(0)", x -> x.stop(0));
        booked("stop(3), of 0, as it was", x -> x.stop(3));
        booked("release(0)", x -> x.release(0));
        booked("release(3), of 0, as it was", x -> x.release(3));
        booked("master(0, 0)", x -> x.master(0, 0));
        booked("master(NONE, 100) as it was", x -> x.master(NONE, 100));
        booked("merge(0, 0, false)", x -> x.merge(0, 0, false));
        booked("merge(0, 0, true) as it was", x -> x.merge(0, 0, true));
        booked("limit(1, 0)", x -> x.limit(1, 0));
        booked("limit(0, 150) as it was", x -> x.limit(0, 150));
        booked("blackout(true)", x -> x.blackout(true));
        booked("blackout(false), of 0, as it was", x -> x.blackout(false));
        booked("tick(1)", x -> x.tick(1));
        booked("tick(5)", x -> x.tick(5));
    }

    private static void unbooked(String call, Call other) {
        CueBoard x = rich();
        int before = x.told(2);
        other.on(x);
        due("calls in the book behind " + call, x.told(2), before);
    }

    /** What only tells is not in THE BOOK, though it answers what is not below 0; nor is what is refused. */
    private static void actsOnly() {
        unbooked("at(0, 0)", x -> x.at(0, 0));
        unbooked("wide(0, 0)", x -> x.wide(0, 0));
        unbooked("memberAt(5, 0)", x -> x.memberAt(5, 0));
        unbooked("asks(0, 0)", x -> x.asks(0, 0));
        unbooked("trace(0)", x -> x.trace(0));
        unbooked("about(0, 0)", x -> x.about(0, 0));
        unbooked("curve(0, 0)", x -> x.curve(0, 0));
        unbooked("value(0, 0, 0)", x -> x.value(0, 0, 0));
        unbooked("playback(0, 2)", x -> x.playback(0, 2));
        unbooked("heat(0)", x -> x.heat(0));
        unbooked("over(0)", x -> x.over(0));
        unbooked("found(1)", x -> x.found(1));
        unbooked("digest()", x -> x.digest());
        unbooked("replay()", x -> x.replay());
        unbooked("told(0)", x -> x.told(0));
        unbooked("pull(2), NO", x -> x.pull(2));
        unbooked("group(0, -1), FEWER", x -> x.group(0, -1));
        unbooked("tick(0), BAD", x -> x.tick(0));
        CueBoard y = old();
        due("told(2) of more than the book has", y.told(2), 121);
        due("tick(3), FULL", y.tick(3), FULL);
        CueBoard z = rich();
        z.back(0);
        due("a back(0) to the latest call", z.told(2), rich().told(2));
    }

    /** So many calls in THE BOOK, with a LINE whose byte is another one behind every TICK. */
    private static CueBoard booked(int calls) {
        CueBoard x = one(DIMMER, 0, 1);
        x.entry(0, 0, 0, 255, 100);
        x.list(0, 0, 0);
        x.go(0);
        for (int i = 7; i < calls; i++) {
            x.tick(1);
        }
        return x;
    }

    private static void first120() {
        sentence("==== 7", "THE BOOK has the first 120 ");
        for (int calls = 118; calls <= 120; calls++) {
            CueBoard x = booked(calls);
            due("told(2)", x.told(2), calls);
            due("replay() of " + calls, x.replay(), x.digest());
            due("back(0) of " + calls, x.back(0), calls - 7);
        }
        CueBoard x = booked(120);
        due("fixture(0, 101): refused", x.fixture(DIMMER, 101), BAD);
        due("at(0, 0): only told", x.at(0, 0), 255);
        due("still 120", x.told(2), 120);
        due("one more: firm(0, false)", x.firm(0, false), 1);
        due("told(2)", x.told(2), 121);
        for (int i = 0; i < 5; i++) {
            due("more: firm(0, true)", x.firm(0, true), 1);
            due("told(2)", x.told(2), 121);
        }
        due("it acts all the same", x.about(0, 4), 1);
        due("tick(1)", x.tick(1), 114);
    }

    private static void playedAgain() {
        sentence("==== 7", "PLAYED AGAIN on a board of its own they give THE DIGEST");
        refused("replay() changes nothing", asked().digest(), Edge::asked, CueBoard::replay);
        refused("replay() of all places taken", full().digest(), Edge::full, CueBoard::replay);
        due("replay() of nothing", new CueBoard().replay(), 0);
        CueBoard x = rich();
        for (int i = 0; i < 20; i++) {
            x.tick(1);
            due("replay() behind " + i, x.replay(), x.digest());
            due("replay() again", x.replay(), x.digest());
        }
        due("no finding of a replay is counted", x.found(1) + x.found(2) + x.found(3), untouched(23));
    }

    /** FINDINGS of the same calls on a board that was never PLAYED AGAIN. */
    private static int untouched(int ticks) {
        CueBoard x = rich();
        while (x.told(1) < ticks) {
            x.tick(1);
        }
        return x.found(1) + x.found(2) + x.found(3);
    }

    private record Ticks(int n) implements Call {
        public int on(CueBoard x) {
            return x.tick(n);
        }
    }

    private static final Call[] SCRIPT = {
        x -> x.line(0, 9), x -> x.line(1, 2), x -> x.fixture(SCREEN, 0), x -> x.fixture(STROBE, 7), x -> x.patch(0, 0, 0),
        x -> x.patch(1, 1, 1), x -> x.point(0, 9, bits(30)), x -> x.point(0, 90, HOLE), x -> x.bend(0, 1, 0),
        x -> x.entry(0, 0, 0, 255, 9), x -> x.entry(0, 0, 1, 80, 4), x -> x.entry(0, 1, 2, 1, 0), x -> x.list(0, 0, 3),
        x -> x.load(1, 0), x -> x.go(1), new Ticks(2), x -> x.firm(0, true), x -> x.merge(0, 0, true), x -> x.limit(0, 20),
        new Ticks(1), x -> x.group(0, 2), x -> x.member(2, 1, 1), x -> x.entry(1, 2, 0, 200, 0), x -> x.list(0, 1, 1),
        x -> x.go(1), new Ticks(3), x -> x.pull(1), x -> x.master(NONE, 40), x -> x.master(1, 70), x -> x.fixture(MOVER, 3),
        new Ticks(1), x -> x.blackout(true), new Ticks(5), x -> x.plug(1), x -> x.stop(1), x -> x.load(0, 0), x -> x.go(0),
        x -> x.unpatch(1), new Ticks(1), x -> x.release(1), x -> x.blackout(false), x -> x.limit(3, 9), x -> x.line(3, 1)};
    private static final int TICKS = 13;

    /** Calls that are not in THE BOOK: what they leave in FOUND and THE TRACE is gone when it goes BACK. */
    private static void noise(CueBoard x) {
        x.at(2, 0);
        x.at(0, -1);
        x.line(3, -1);
        x.asks(0, REACH);
        x.memberAt(0, 0);
        x.fixture(9, 9);
        x.tick(0);
    }

    private static CueBoard whole() {
        CueBoard x = new CueBoard();
        for (Call act : SCRIPT) {
            act.on(x);
            noise(x);
        }
        return x;
    }

    /** THE BOOK up to right behind that TICK, and nothing else. */
    private static CueBoard upTo(int tick) {
        CueBoard x = new CueBoard();
        for (Call act : SCRIPT) {
            if (act instanceof Ticks ticks) {
                x.tick(Math.min(ticks.n, tick - x.told(1)));
            } else {
                act.on(x);
            }
            if (x.told(1) == tick) {
                return x;
            }
        }
        return x;
    }

    private static void goesBack() {
        sentence("==== 7", "BACK by n: all is as if nothing but THE BOOK up to right behind the n-th last TICK (0 the latest) had been called"
            + " (so FOUND, too; THE TRACE is empty)");
        due("ticks of the whole", whole().told(1), TICKS);
        for (int n = 0; n < TICKS; n++) {
            int each = n;
            same("back(" + n + ")", () -> gone(each), () -> upTo(TICKS - each));
        }
        CueBoard x = whole();
        due("THE TRACE before", x.trace(0), 21);
        x.back(0);
        trace(x);
        due("found(5)", x.found(5), 0);
        due("found(4)", x.found(4), 0);
        due("found(6)", x.found(6), 0);
    }

    private static CueBoard gone(int n) {
        CueBoard x = whole();
        due("back(" + n + ")", x.back(n), TICKS - n);
        return x;
    }

    private static void undone(String call, Call act) {
        same("back(0) behind " + call, () -> {
            CueBoard x = rich();
            due(call + " acts", act.on(x) >= 0 ? 1 : 0, 1);
            due("back(0) behind " + call, x.back(0), 3);
            return x;
        }, Edge::rich);
    }

    /** A board whose latest call is a TICK: whatever comes behind it is gone. */
    private static void goesBackFromEach() {
        for (int i = 0; i < 4; i++) {
            int k = i;
            undone("line(" + k + ", 64)", x -> x.line(k, 64));
            undone("point(" + k + ", 255, 1f)", x -> x.point(k, 255, bits(1)));
            undone("list(" + k + ", 3, 1)", x -> x.list(k, 3, 1));
            undone("load(" + k + ", 2)", x -> x.load(k, 2));
            undone("stop(" + k + ")", x -> x.stop(k));
            undone("release(" + k + ")", x -> x.release(k));
            undone("master(" + k + ", 3)", x -> x.master(k, 3));
            undone("limit(" + k + ", 3)", x -> x.limit(k, 3));
        }
        undone("pull(0)", x -> x.pull(0));
        undone("plug(2)", x -> x.plug(2));
        undone("fixture(2, 9)", x -> x.fixture(MOVER, 9));
        undone("group(2, 6)", x -> x.group(2, 6));
        undone("member(5, 0, NONE)", x -> x.member(5, 0, NONE));
        undone("patch(6, 0, 19)", x -> x.patch(6, 0, 19));
        undone("unpatch(0)", x -> x.unpatch(0));
        undone("firm(1, false)", x -> x.firm(1, false));
        undone("bend(0, 0, NONE)", x -> x.bend(0, 0, NONE));
        undone("entry(0, 0, 0, 1, 1)", x -> x.entry(0, 0, 0, 1, 1));
        undone("go(0)", x -> x.go(0));
        undone("go(1)", x -> x.go(1));
        undone("master(NONE, 3)", x -> x.master(NONE, 3));
        undone("merge(0, 0, false)", x -> x.merge(0, 0, false));
        undone("blackout(true)", x -> x.blackout(true));
    }

    /** What is held from TICK to TICK, or tells only when two PLAYBACKS meet, is gone, too. */
    private static void goesBackFromWhatStays() {
        CueBoard x = one(SCREEN, 0, 3);
        x.point(0, 0, HOLE);
        x.point(0, 9, bits(40));
        x.bend(0, 0, 0);
        x.tick(1);
        row(x, 0, 0);
        send(x, 0, 0, 0, 9, 0);
        x.tick(1);
        row(x, 0, 40);
        x.back(1);
        x.tick(1);
        row(x, 0, 0);
        for (int c = 0; c < 3; c++) {
            CueBoard y = one(SCREEN, 0, 3);
            y.entry(0, 0, c, 90, 0);
            y.entry(1, 0, c, 30, 0);
            y.list(0, 0, 0);
            y.list(1, 1, 0);
            y.load(1, 1);
            y.go(0);
            y.go(1);
            y.tick(1);
            y.merge(0, c, true);
            y.back(0);
            y.tick(1);
            due("merged by the greatest again", y.at(0, c), 90);
        }
        CueBoard z = one(DIMMER, 0, 1);
        z.tick(1);
        z.line(0, 9);
        z.line(1, 9);
        z.back(0);
        due("at(1, 0) of a line that is not told any more", z.at(1, 0), NOTHING);
        due("at(0, 1) of one that has fewer places again", z.at(0, 1), BEYOND);
        CueBoard w = new CueBoard();
        w.tick(1);
        w.line(0, 9);
        w.back(0);
        due("at(0, 0) of a line that is not told any more", w.at(0, 0), NOTHING);
        due("pull(0)", w.pull(0), NO);
    }

    private static void outOfTheBook() {
        sentence("==== 7", "what came behind it is out of THE BOOK (of a call of several TICKS those behind it)");
        for (int n = 0; n < TICKS; n++) {
            CueBoard x = gone(n);
            CueBoard y = upTo(TICKS - n);
            due("told(2) behind back(" + n + ")", x.told(2), y.told(2));
            due("replay() behind back(" + n + ")", x.replay(), y.digest());
            due("back(0) again", x.back(0), TICKS - n);
            due("told(2) again", x.told(2), y.told(2));
            due("back by one more than went", x.back(TICKS - n), NO);
        }
        // In a call of five: one of its TICKS is left, and the call is still one in THE BOOK.
        CueBoard x = new CueBoard();
        x.tick(5);
        due("back(4)", x.back(4), 1);
        due("told(2)", x.told(2), 1);
        due("replay() of one tick", x.replay(), x.digest());
        due("tick(5)", x.tick(5), 6);
        due("back(4) again", x.back(4), 2);
        due("told(2)", x.told(2), 2);
        due("back(1)", x.back(1), 1);
        due("told(2)", x.told(2), 1);
        // A full BOOK has places again.
        CueBoard y = booked(120);
        due("back(50)", y.back(50), 63);
        due("told(2)", y.told(2), 70);
        for (int calls = 71; calls <= 120; calls++) {
            y.tick(1);
            due("told(2)", y.told(2), calls);
        }
        due("replay()", y.replay(), y.digest());
        due("the digest is that of before", y.digest(), booked(120).digest());
    }

    private static CueBoard oneMore() {
        CueBoard x = booked(120);
        x.tick(1);
        return x;
    }

    private static void moreThanTheBook() {
        sentence("==== 7", "Both NO: there were more such calls than THE BOOK has");
        refused("replay()", NO, BookEdges::oneMore, CueBoard::replay);
        refused("back(0)", NO, BookEdges::oneMore, x -> x.back(0));
        refused("back(50)", NO, BookEdges::oneMore, x -> x.back(50));
        refused("replay() of far more", NO, Edge::old, CueBoard::replay);
        refused("back(0) of far more", NO, Edge::old, x -> x.back(0));
        refused("back(51)", BAD, BookEdges::oneMore, x -> x.back(51));
    }

    private static CueBoard screen(int l, int places) {
        CueBoard x = one(SCREEN, 0, 1);
        x.line(l, places);
        x.patch(0, l, 0);
        for (int c = 0; c < 3; c++) {
            x.entry(0, 0, c, 255 - c, 0);
        }
        x.list(0, 0, 0);
        x.go(0);
        return x;
    }

    private static void digests() {
        sentence("==== 7", "THE DIGEST: 0 at first; at the end of each TICK, for each LINE by numbers, place by place of PLUGGED ones:"
            + " it becomes 31 times it, and the byte (ints; wraps)");
        due("digest() at first", new CueBoard().digest(), 0);
        CueBoard none = new CueBoard();
        none.tick(5);
        due("digest() without lines", none.digest(), 0);
        CueBoard x = screen(1, 3);
        due("digest() before a tick", x.digest(), 0);
        long sum = 0;
        boolean above = false;
        for (int k = 1; k <= 40; k++) {
            x.tick(1);
            // LINE 0 has one place, which is 0.
            for (int b : new int[] {0, 255, 254, 253}) {
                sum = sum * 31 + b & 0xFFFFFFFFL;
            }
            above |= sum > Integer.MAX_VALUE;
            due("digest() behind " + k, x.digest(), (int) sum);
        }
        due("it was below 0, too", above ? 1 : 0, 1);
        // 255 times (31 to the 7th less 1) by 30, as an int: one TICK alone wraps.
        CueBoard y = new CueBoard();
        y.line(0, 7);
        y.load(0, 0);
        for (int f = 0; f < 7; f++) {
            y.fixture(DIMMER, 0);
            y.patch(f, 0, f);
            y.entry(0, f, 0, 255, 0);
        }
        y.list(0, 0, 0);
        y.go(0);
        y.tick(1);
        due("digest() of seven full bytes", y.digest(), (int) 233857219935L);
        pulledLines();
    }

    private static void pulledLines() {
        CueBoard x = screen(1, 3);
        x.line(2, 0);
        x.line(3, 2);
        x.tick(1);
        int due = ((((0 * 31 + 255) * 31 + 254) * 31 + 253) * 31 + 0) * 31 + 0;
        due("lines by numbers", x.digest(), due);
        x.pull(0);
        x.pull(3);
        x.tick(1);
        due = ((due * 31 + 255) * 31 + 254) * 31 + 253;
        due("plugged ones alone", x.digest(), due);
        x.pull(1);
        x.tick(5);
        due("a line without places", x.digest(), due);
        x.plug(3);
        due("between ticks", x.digest(), due);
        x.tick(1);
        due("plugged again", x.digest(), due * 961);
    }

    private static void digest() {
        sentence("Promise 36", "THE DIGEST");
        due("digest() of a new board", new CueBoard().digest(), 0);
        CueBoard x = screen(0, 1);
        x.tick(1);
        due("digest()", x.digest(), 255);
        x.line(0, 2);
        due("digest() behind what is no tick", x.digest(), 255);
        x.back(0);
        due("digest() gone back", x.digest(), 255);
        x.tick(1);
        due("digest() behind one more", x.digest(), 255 * 31 + 255);
        x.back(1);
        due("digest() gone back by one", x.digest(), 255);
    }

    /** Bytes that make THE DIGEST this number in one TICK: its digits by 31. */
    private static CueBoard digestOf(int wanted) {
        CueBoard x = new CueBoard();
        x.line(0, 7);
        x.load(0, 0);
        long left = wanted & 0xFFFFFFFFL;
        for (int f = 0; f < 7; f++) {
            x.fixture(DIMMER, 0);
            x.patch(f, 0, 6 - f);
            x.entry(0, f, 0, (int) (left % 31), 0);
            left /= 31;
        }
        x.list(0, 0, 0);
        x.go(0);
        x.tick(1);
        return x;
    }

    private static void replay() {
        sentence("Promise 37", "PLAYED AGAIN: THE DIGEST that comes");
        due("replay() of a new board", new CueBoard().replay(), 0);
        for (int wanted : new int[] {1, LEAST, GREATEST, -1}) {
            due("replay() of " + wanted, digestOf(wanted).replay(), wanted);
        }
        sentence("Promise 37", "NO (a DIGEST may be that, too: told(2) tells)");
        CueBoard x = digestOf(NO);
        due("digest() that is NO", x.digest(), NO);
        due("replay() that is NO", x.replay(), NO);
        due("told(2) tells", x.told(2) <= 120 ? 1 : 0, 1);
        CueBoard y = booked(120);
        due("replay() of 120", y.replay(), y.digest());
        y.blackout(true);
        due("replay() of 121", y.replay(), NO);
        due("told(2) of 121", y.told(2), 121);
        due("digest() of 121 is there", y.digest(), booked(120).digest());
    }

    private static CueBoard ticked(int ticks) {
        CueBoard x = new CueBoard();
        x.line(0, 1);
        for (int i = 0; i < ticks; i++) {
            x.tick(1);
        }
        return x;
    }

    private static void back() {
        sentence("Promise 38", "BACK by n (0 .. 50): how many TICKS went ever then");
        for (int n : new int[] {0, 1, 49, 50}) {
            due("back(" + n + ") of 60", ticked(60).back(n), 60 - n);
            CueBoard x = ticked(n + 1);
            due("back(" + n + ") of " + (n + 1), x.back(n), 1);
            due("told(1)", x.told(1), 1);
            due("told(2)", x.told(2), 2);
        }
        CueBoard y = ticked(60);
        due("back(50)", y.back(50), 10);
        due("back(9)", y.back(9), 1);
        due("back(0)", y.back(0), 1);
        due("tick(1)", y.tick(1), 2);
        sentence("Promise 38", "BAD");
        for (int wrong : new int[] {-1, 51, LEAST, GREATEST}) {
            refused("back(" + wrong + ")", BAD, Edge::asked, x -> x.back(wrong));
            refused("back(" + wrong + ") of 60", BAD, () -> ticked(60), x -> x.back(wrong));
        }
        sentence("Promise 38", "NO: also n TICKS and one more did not go");
        refused("back(0) of a new board", NO, CueBoard::new, x -> x.back(0));
        refused("back(3) of three", NO, Edge::asked, x -> x.back(3));
        refused("back(4) of three", NO, Edge::asked, x -> x.back(4));
        refused("back(50) of three", NO, Edge::asked, x -> x.back(50));
        refused("back(50) of 50", NO, () -> ticked(50), x -> x.back(50));
        due("back(2) of three", asked().back(2), 1);
        CueBoard z = asked();
        z.back(2);
        due("back(1) of one that is left", z.back(1), NO);
        due("told(1)", z.told(1), 1);
    }

    private static void told() {
        sentence("Promise 39", "0 FIXTURES, 1 TICKS, 2 calls in THE BOOK (121: there were more than it has), 3 whether there is a BLACKOUT, 4 GRAND");
        int[] first = {0, 0, 0, 0, 100};
        int[] later = {7, 3, 0, 1, 0};
        CueBoard x = rich();
        later[2] = x.told(2) + 2;
        x.blackout(true);
        x.master(NONE, 0);
        for (int what = 0; what < 5; what++) {
            due("told(" + what + ") of a new board", new CueBoard().told(what), first[what]);
            due("told(" + what + ")", x.told(what), later[what]);
        }
        due("told(0) of all places taken", full().told(0), 24);
        due("told(1) of 1998", old().told(1), 1998);
        due("told(2) of 119", booked(119).told(2), 119);
        due("told(2) of 120", booked(120).told(2), 120);
        due("told(2) of 121", oneMore().told(2), 121);
        due("told(2) of far more", old().told(2), 121);
        sentence("Promise 39", "BAD");
        for (int wrong : new int[] {-1, 5, LEAST, GREATEST}) {
            refused("told(" + wrong + ")", BAD, Edge::rich, y -> y.told(wrong));
        }
    }

    private static void lastCall() {
        sentence("What it is", "An object is used for at most 512 calls after it has been made");
        CueBoard x = new CueBoard();
        for (int i = 1; i < 512; i++) {
            due("call " + i, x.blackout(i % 2 == 0), i == 1 ? 0 : i % 2);
        }
        due("call 512", x.told(2), 121);
        CueBoard y = new CueBoard();
        y.line(0, 64);
        for (int i = 2; i <= 120; i++) {
            y.tick(5);
        }
        for (int i = 121; i <= 511; i++) {
            due("replay() as call " + i, y.replay(), 0);
        }
        due("back(50) as call 512", y.back(50), 119 * 5 - 50);
    }
}

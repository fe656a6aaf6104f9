/** Promises 36 to 39: digest, replay, back, told. */
public final class BookTest {
    public static void main(String[] args) {
        digests();
        booked();
        notBooked();
        fullBook();
        goesBack();
        goesBackInACall();
        goesBackWholly();
        goesBackToFewer();
        goesBackToHeld();
        goesBackToTheFirstCall();
        backWrong();
        told();
        Tally.end();
    }

    private static CueBoard fading() {
        CueBoard x = new CueBoard();
        x.line(1, 2);
        x.fixture(0, 0);
        x.patch(0, 1, 1);
        x.entry(0, 0, 0, 100, 10);
        x.list(0, 0, 0);
        x.load(0, 0);
        x.go(0);
        return x;
    }

    private static void digests() {
        CueBoard x = fading();
        Tally.due("0 at first", x.digest(), 0);
        int due = 0;
        for (int k = 1; k <= 10; k++) {
            x.tick(1);
            due = (due * 31 + 0) * 31 + 10 * k;
            Tally.due("digest behind " + k, x.digest(), due);
            Tally.due("played again", x.replay(), due);
        }
        x.line(0, 1);
        x.line(3, 1);
        x.patch(0, 0, 0);
        x.tick(1);
        due = (((due * 31 + 100) * 31 + 0) * 31 + 0) * 31 + 0;
        Tally.due("lines by numbers", x.digest(), due);
        x.pull(1);
        x.pull(3);
        x.tick(1);
        due = due * 31 + 100;
        Tally.due("plugged ones only", x.digest(), due);
        x.blackout(true);
        Tally.due("changed by ticks only", x.digest(), due);
        x.tick(1);
        Tally.due("of what is written", x.digest(), due * 31);
        Tally.due("played again", x.replay(), due * 31);
        Tally.due("a replay changes nothing", x.digest(), due * 31);
        Tally.due("nor the ticks", x.told(1), 13);
    }

    /** Each kind of call that acts is one more in THE BOOK, also where all stays as it was. */
    private static void booked() {
        CueBoard x = new CueBoard();
        int calls = 0;
        int[] answers = {
            x.line(0, 9), x.pull(0), x.plug(0), x.fixture(0, 0), x.group(0, 1), x.member(1, 0, 0),
            x.patch(0, 0, 0), x.unpatch(0), x.firm(0, true), x.point(0, 0, 0), x.bend(0, 0, 0),
            x.entry(0, 0, 0, 0, 0), x.list(0, 0, 0), x.load(0, 0), x.go(0), x.stop(0), x.release(0),
            x.master(0, 0), x.merge(0, 0, true), x.limit(0, 0), x.blackout(true), x.tick(1),
            x.firm(0, true), x.stop(0), x.release(0), x.master(0, 0), x.merge(0, 0, true), x.blackout(true)};
        for (int answer : answers) {
            Tally.due("acts", answer >= 0 ? 1 : 0, 1);
            calls++;
        }
        Tally.due("all are booked", x.told(2), calls);
    }

    private static void notBooked() {
        CueBoard x = fading();
        x.tick(1);
        int calls = x.told(2);
        x.at(1, 0);
        x.wide(1, 0);
        x.memberAt(0, 0);
        x.asks(0, 0);
        x.trace(0);
        x.about(0, 0);
        x.curve(0, 0);
        x.value(0, 0, 0);
        x.playback(0, 0);
        x.heat(0);
        x.over(0);
        x.found(1);
        x.digest();
        x.replay();
        x.told(0);
        x.pull(0);
        x.line(0, -1);
        x.fixture(9, 0);
        x.go(0);
        x.tick(0);
        x.unpatch(9);
        x.back(9);
        Tally.due("none is booked", x.told(2), calls);
    }

    private static void fullBook() {
        CueBoard x = fading();
        for (int calls = 8; calls <= 120; calls++) {
            x.tick(1);
            Tally.due("calls", x.told(2), calls);
        }
        int digest = x.digest();
        Tally.due("the book is full", x.replay(), digest);
        Tally.due("back of a full one", x.back(1), 112);
        Tally.due("one less", x.told(2), 119);
        x.tick(1);
        Tally.due("full again", x.told(2), 120);
        Tally.due("the same digest", x.digest(), digest);
        x.at(0, 0);
        Tally.due("what does not act does not count", x.told(2), 120);
        x.firm(0, true);
        Tally.due("one more", x.told(2), 121);
        x.firm(0, true);
        Tally.due("and more", x.told(2), 121);
        Tally.due("no replay", x.replay(), CueBoard.NO);
        Tally.due("no back", x.back(0), CueBoard.NO);
        Tally.due("a wrong back", x.back(51), CueBoard.BAD);
        Tally.due("it acts still", x.tick(1), 114);
        Tally.due("digest goes on", x.digest(), (digest * 31) * 31 + 100);
    }

    private static void goesBack() {
        CueBoard x = fading();
        x.tick(1);
        x.blackout(true);
        x.tick(1);
        int digest = x.digest();
        x.master(-1, 7);
        x.fixture(1, 1);
        Tally.due("calls", x.told(2), 12);
        Tally.due("back(0)", x.back(0), 2);
        Tally.due("what came behind is out", x.told(2), 10);
        Tally.due("no fixture more", x.told(0), 1);
        Tally.due("GRAND", x.told(4), 100);
        Tally.due("blackout", x.told(3), 1);
        Tally.due("digest", x.digest(), digest);
        Tally.due("back(0) again", x.back(0), 2);
        Tally.due("back(1)", x.back(1), 1);
        Tally.due("blackout is gone", x.told(3), 0);
        Tally.due("calls", x.told(2), 8);
        Tally.due("the byte", x.at(1, 1), 10);
        Tally.due("digest", x.digest(), 10);
        Tally.due("the fade", x.value(0, 0, 0), 10);
        x.tick(1);
        Tally.due("it goes on from there", x.at(1, 1), 20);
        Tally.due("ticks", x.told(1), 2);
        Tally.due("replay", x.replay(), x.digest());
    }

    private static void goesBackInACall() {
        CueBoard x = fading();
        x.tick(4);
        x.tick(5);
        x.limit(0, 5);
        Tally.due("calls", x.told(2), 10);
        Tally.due("back(2)", x.back(2), 7);
        Tally.due("the call stays", x.told(2), 9);
        Tally.due("as of tick 7", x.at(1, 1), 70);
        Tally.due("replay", x.replay(), x.digest());
        Tally.due("back(3)", x.back(3), 4);
        Tally.due("right behind a call", x.told(2), 8);
        Tally.due("as of tick 4", x.at(1, 1), 40);
        Tally.due("back(3)", x.back(3), 1);
        Tally.due("calls", x.told(2), 8);
        Tally.due("entries", x.playback(0, 4), 2);
        Tally.due("leavings of another", x.playback(3, 5), 1);
        x.tick(5);
        Tally.due("ticks", x.told(1), 6);
        Tally.due("as of tick 6", x.at(1, 1), 60);
    }

    /** As if nothing but THE BOOK had been called: so FOUND, THE TRACE and all the rest. */
    private static void goesBackWholly() {
        CueBoard x = fading();
        x.fixture(3, 0);
        x.group(0, 2);
        x.member(2, 0, 1);
        x.patch(1, 1, 0);
        x.point(0, 0, Float.floatToRawIntBits(5f));
        x.tick(1);
        x.at(0, 0);
        x.asks(1, 2);
        x.member(2, 1, 0);
        x.point(0, 1, Float.floatToRawIntBits(9f));
        x.bend(1, 0, 0);
        x.merge(0, 0, true);
        x.firm(0, true);
        x.unpatch(0);
        x.entry(0, 1, 0, 9, 9);
        x.list(0, 1, 0);
        x.load(1, 0);
        x.go(1);
        x.master(1, 3);
        x.limit(1, 1);
        x.line(0, 5);
        x.pull(1);
        x.back(0);
        Tally.due("BEYOND of the tick", x.found(2), 1);
        int[] none = {1, 3, 4, 5, 6};
        for (int finding : none) {
            Tally.due("no other finding: " + finding, x.found(finding), 0);
        }
        Tally.due("no trace", x.trace(0), CueBoard.NONE);
        Tally.due("one member", x.memberAt(2, 1), CueBoard.NONE);
        Tally.due("one point", x.curve(0, 255), Float.floatToRawIntBits(5f));
        Tally.due("not firm", x.about(0, 4), 0);
        Tally.due("patched", x.about(0, 2), 1);
        Tally.due("one entry", x.entry(0, 1, 0, 9, 9), 2);
        Tally.due("one step", x.list(0, 1, 0), 2);
        Tally.due("no list", x.playback(1, 0), CueBoard.NONE);
        Tally.due("no channels", x.playback(1, 6), 0);
        Tally.due("its master", x.playback(1, 2), 100);
        Tally.due("never told", x.pull(0), CueBoard.NO);
        Tally.due("plugged", x.plug(1), CueBoard.NO);
        x.tick(5);
        Tally.due("no limit, no bend", x.at(1, 0), 0);
        Tally.due("the later patched one has it", x.at(1, 1), 0);
        Tally.due("heat", x.heat(1), 60 * 20 / 255);
        Tally.due("replay", x.replay(), x.digest());
    }

    /** What came behind the TICK is not there any more, and may come again. */
    private static void goesBackToFewer() {
        CueBoard x = fading();
        x.tick(1);
        for (int i = 0; i < 3; i++) {
            x.group(0, 0);
        }
        int f = x.fixture(0, 0);
        x.patch(f, 1, 0);
        x.merge(0, 0, true);
        x.load(1, 0);
        x.go(1);
        x.back(0);
        for (int g = 1; g <= 3; g++) {
            Tally.due("a group again", x.group(0, 0), g);
        }
        Tally.due("a fourth", x.group(0, 0), CueBoard.FULL);
        Tally.due("a fixture again", x.fixture(0, 0), f);
        Tally.due("not patched", x.about(f, 2), CueBoard.NONE);
        x.load(1, 0);
        x.go(1);
        x.tick(1);
        Tally.due("by the greatest again", x.at(1, 1), 20);
        Tally.due("nothing found", x.found(1) + x.found(2), 0);
        Tally.due("replay", x.replay(), x.digest());
    }

    private static void goesBackToHeld() {
        CueBoard x = new CueBoard();
        x.line(0, 1);
        x.fixture(0, 0);
        x.patch(0, 0, 0);
        x.bend(0, 0, 0);
        x.point(0, 0, 0x7FC00000);
        x.point(0, 50, Float.floatToRawIntBits(80f));
        x.entry(0, 0, 0, 60, 0);
        x.list(0, 0, 0);
        x.load(0, 0);
        x.tick(1);
        x.go(0);
        x.tick(1);
        Tally.due("bent", x.at(0, 0), 80);
        x.back(1);
        Tally.due("held 0", x.at(0, 0), 0);
        x.tick(1);
        Tally.due("still held 0", x.at(0, 0), 0);
        Tally.due("the digest", x.digest(), 0);
    }

    private static void goesBackToTheFirstCall() {
        CueBoard x = new CueBoard();
        x.tick(3);
        x.line(0, 1);
        Tally.due("back(1)", x.back(1), 2);
        Tally.due("one call", x.told(2), 1);
        Tally.due("back(1)", x.back(1), 1);
        Tally.due("one call", x.told(2), 1);
    }

    private static void backWrong() {
        CueBoard x = fading();
        Tally.due("back(-1)", x.back(-1), CueBoard.BAD);
        Tally.due("back(51)", x.back(51), CueBoard.BAD);
        Tally.due("no tick yet", x.back(0), CueBoard.NO);
        x.tick(3);
        Tally.due("not that many", x.back(3), CueBoard.NO);
        Tally.due("not that many", x.back(50), CueBoard.NO);
        Tally.due("nothing changed", x.told(1), 3);
        Tally.due("the first", x.back(2), 1);
        for (int i = 0; i < 10; i++) {
            x.tick(5);
        }
        Tally.due("fifty", x.back(50), 1);
        Tally.due("calls", x.told(2), 8);
    }

    private static void told() {
        CueBoard x = fading();
        x.tick(4);
        x.blackout(true);
        x.master(CueBoard.NONE, 12);
        int[] due = {1, 4, 10, 1, 12};
        for (int what = 0; what < due.length; what++) {
            Tally.due("told(" + what + ")", x.told(what), due[what]);
        }
        Tally.due("told(-1)", x.told(-1), CueBoard.BAD);
        Tally.due("told(5)", x.told(5), CueBoard.BAD);
    }
}

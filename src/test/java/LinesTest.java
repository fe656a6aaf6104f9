/** Promises 1 to 6: a new object, line, pull, plug, at, wide. */
public final class LinesTest {
    private static final int NOTHING = -11, BEYOND = -12, FEWER = -15;

    public static void main(String[] args) {
        newObject();
        lineIsTold();
        lineAnew();
        lineWrong();
        pullAndPlug();
        pullKeepsPlaces();
        bytes();
        words();
        Tally.end();
    }

    private static void newObject() {
        CueBoard x = new CueBoard();
        for (int l = 0; l < 4; l++) {
            Tally.due("new at", x.at(l, 0), NOTHING);
            Tally.due("new heat", x.heat(l), 0);
            Tally.due("new over", x.over(l), 0);
            Tally.due("new curve", x.curve(l, 255), Float.floatToRawIntBits(255f));
            Tally.due("new playback list", x.playback(l, 0), CueBoard.NONE);
            Tally.due("new playback place", x.playback(l, 1), -1);
            Tally.due("new playback master", x.playback(l, 2), 100);
            for (int what = 3; what <= 6; what++) {
                Tally.due("new playback " + what, x.playback(l, what), 0);
            }
            Tally.due("new go", x.go(l), CueBoard.NO);
        }
        for (int finding = 2; finding <= 6; finding++) {
            Tally.due("new found", x.found(finding), 0);
        }
        Tally.due("found of four at()", x.found(1), 4);
        int[] told = {0, 0, 0, 0, 100};
        for (int what = 0; what < told.length; what++) {
            Tally.due("new told " + what, x.told(what), told[what]);
        }
        Tally.due("new digest", x.digest(), 0);
        Tally.due("new replay", x.replay(), 0);
        Tally.due("new back", x.back(0), CueBoard.NO);
        Tally.due("new about", x.about(0, 0), CueBoard.BAD);
        Tally.due("new trace", x.trace(0), CueBoard.NONE);
        Tally.due("new entry", x.entry(0, 0, 0, 0, 0), CueBoard.BAD);
        Tally.due("new list", x.list(0, 0, 0), 1);
        limitsOfANewObject();
    }

    /** 24 hot FIXTURES make at most some thousands: the LIMIT of 1000000 never cuts. */
    private static void limitsOfANewObject() {
        CueBoard x = new CueBoard();
        x.line(0, 64);
        for (int i = 0; i < 12; i++) {
            int f = x.fixture(2, 45);
            x.patch(f, 0, 5 * i);
            x.entry(0, f, 2, 255, 0);
        }
        x.list(0, 0, 0);
        x.load(0, 0);
        x.go(0);
        x.tick(1);
        Tally.due("heat of twelve", x.heat(0), 12 * 145);
        Tally.due("over of twelve", x.over(0), 0);
        Tally.due("last of twelve", x.at(0, 59), 255);
    }

    private static void lineIsTold() {
        CueBoard x = new CueBoard();
        for (int l = 0; l < 4; l++) {
            Tally.due("line", x.line(l, 16 * l), 1);
            Tally.due("behind its last", x.at(l, 16 * l), BEYOND);
        }
        Tally.due("its last", x.at(3, 47), 0);
        Tally.due("line(0, 64)", x.line(0, 64), 1);
        Tally.due("the last of all", x.at(0, 63), 0);
        Tally.due("behind all", x.at(0, 64), BEYOND);
        Tally.due("no places", x.at(1, 16), BEYOND);
        Tally.due("told(2)", x.told(2), 5);
        for (int l = 0; l < 4; l++) {
            Tally.due("line of 64", x.line(l, 64), 1);
            Tally.due("pull of 64", x.pull(l), 1);
            Tally.due("plug of 64", x.plug(l), 1);
        }
        x.tick(1);
        Tally.due("the last of the last", x.at(3, 63), 0);
    }

    private static CueBoard lit() {
        CueBoard x = new CueBoard();
        x.line(0, 8);
        x.fixture(0, 0);
        x.patch(0, 0, 3);
        x.entry(0, 0, 0, 200, 0);
        x.list(0, 0, 0);
        x.load(0, 0);
        x.go(0);
        x.limit(0, 10);
        x.firm(0, true);
        x.tick(1);
        return x;
    }

    /** Anew a LINE is blank and PLUGGED, but LIMIT, patching, heat() and over() stay. */
    private static void lineAnew() {
        CueBoard x = lit();
        Tally.due("lit", x.at(0, 3), 200);
        Tally.due("hot", x.heat(0), 15);
        Tally.due("over", x.over(0), 1);
        Tally.due("anew", x.line(0, 6), 1);
        Tally.due("blank", x.at(0, 3), 0);
        Tally.due("shorter", x.at(0, 6), BEYOND);
        Tally.due("heat stays", x.heat(0), 15);
        Tally.due("over stays", x.over(0), 1);
        Tally.due("patch stays", x.about(0, 2), 0);
        Tally.due("place stays", x.about(0, 3), 3);
        x.firm(0, false);
        x.tick(1);
        // 20 * 140 / 255 is 10, 20 * 141 / 255 is 11.
        Tally.due("limit stays", x.at(0, 3), 140);
        x.pull(0);
        x.line(0, 8);
        Tally.due("plugged by line", x.at(0, 3), 0);
        Tally.due("is plugged", x.plug(0), CueBoard.NO);
    }

    private static void lineWrong() {
        CueBoard x = new CueBoard();
        Tally.due("line(-1, 1)", x.line(-1, 1), CueBoard.BAD);
        Tally.due("line(4, 1)", x.line(4, 1), CueBoard.BAD);
        Tally.due("line(0, 65)", x.line(0, 65), CueBoard.BAD);
        Tally.due("line(4, -1): BAD first", x.line(4, -1), CueBoard.BAD);
        Tally.due("line(0, -1)", x.line(0, -1), FEWER);
        Tally.due("line(0, least)", x.line(0, Integer.MIN_VALUE), FEWER);
        Tally.due("found FEWER", x.found(5), 2);
        Tally.due("still not told", x.at(0, 0), NOTHING);
        Tally.due("nothing booked", x.told(2), 0);
        x.line(0, 3);
        x.line(0, -1);
        Tally.due("still of three", x.at(0, 2), 0);
        Tally.due("still of three only", x.at(0, 3), BEYOND);
    }

    private static void pullAndPlug() {
        CueBoard x = new CueBoard();
        Tally.due("pull(-1)", x.pull(-1), CueBoard.BAD);
        Tally.due("pull(4)", x.pull(4), CueBoard.BAD);
        Tally.due("plug(-1)", x.plug(-1), CueBoard.BAD);
        Tally.due("plug(4)", x.plug(4), CueBoard.BAD);
        Tally.due("pull never told", x.pull(3), CueBoard.NO);
        Tally.due("plug never told", x.plug(3), CueBoard.NO);
        x.line(3, 2);
        Tally.due("plug plugged", x.plug(3), CueBoard.NO);
        Tally.due("pull", x.pull(3), 1);
        Tally.due("pull pulled", x.pull(3), CueBoard.NO);
        Tally.due("at pulled", x.at(3, 0), NOTHING);
        Tally.due("at pulled, beyond", x.at(3, 9), NOTHING);
        Tally.due("wide pulled", x.wide(3, 0), NOTHING);
        Tally.due("plug", x.plug(3), 1);
        Tally.due("at", x.at(3, 1), 0);
        Tally.due("booked", x.told(2), 3);
        Tally.due("no finding for NO", x.found(1), 3);
    }

    private static void pullKeepsPlaces() {
        CueBoard x = lit();
        x.limit(0, 1000);
        x.pull(0);
        x.tick(1);
        Tally.due("heat of a pulled line", x.heat(0), 15);
        x.plug(0);
        Tally.due("blank till the next tick", x.at(0, 3), 0);
        Tally.due("its last place", x.at(0, 7), 0);
        Tally.due("behind it", x.at(0, 8), BEYOND);
        x.tick(1);
        Tally.due("lit again", x.at(0, 3), 200);
    }

    private static void bytes() {
        CueBoard x = lit();
        Tally.due("at(-1, 0)", x.at(-1, 0), CueBoard.BAD);
        Tally.due("at(4, 0)", x.at(4, 0), CueBoard.BAD);
        Tally.due("at(1, 0)", x.at(1, 0), NOTHING);
        Tally.due("at(1, -1)", x.at(1, -1), NOTHING);
        Tally.due("at(0, -1)", x.at(0, -1), BEYOND);
        Tally.due("at(0, 8)", x.at(0, 8), BEYOND);
        Tally.due("at(0, most)", x.at(0, Integer.MAX_VALUE), BEYOND);
        Tally.due("at(0, least)", x.at(0, Integer.MIN_VALUE), BEYOND);
        Tally.due("at(0, 3)", x.at(0, 3), 200);
        Tally.due("at(0, 2)", x.at(0, 2), 0);
        Tally.due("found NOTHING", x.found(1), 2);
        Tally.due("found BEYOND", x.found(2), 4);
    }

    private static void words() {
        CueBoard x = lit();
        Tally.due("wide(-1, 0)", x.wide(-1, 0), CueBoard.BAD);
        Tally.due("wide(4, 0)", x.wide(4, 0), CueBoard.BAD);
        Tally.due("wide(1, 99)", x.wide(1, 99), NOTHING);
        Tally.due("wide(0, -1)", x.wide(0, -1), BEYOND);
        Tally.due("wide(0, 7)", x.wide(0, 7), BEYOND);
        Tally.due("wide(0, 8)", x.wide(0, 8), BEYOND);
        Tally.due("wide(0, most)", x.wide(0, Integer.MAX_VALUE), BEYOND);
        Tally.due("wide(0, least)", x.wide(0, Integer.MIN_VALUE), BEYOND);
        Tally.due("wide(0, 6)", x.wide(0, 6), 0);
        Tally.due("high byte", x.wide(0, 3), 200 * 256);
        Tally.due("low byte", x.wide(0, 2), 200);
        Tally.due("found NOTHING", x.found(1), 1);
        Tally.due("found BEYOND", x.found(2), 5);
        x.line(2, 1);
        Tally.due("one place only", x.wide(2, 0), BEYOND);
        x.line(2, 0);
        Tally.due("no place", x.wide(2, 0), BEYOND);
    }
}
